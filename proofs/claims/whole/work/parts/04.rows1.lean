theorem dX3_speed_38 : decode cX3_speed 38 = .ok (.aload_n 0, 1) := by decide +kernel
theorem dX3_speed_39 : decode cX3_speed 39 = .ok (.invokevirtual 75, 3) := by decide +kernel
theorem dX3_speed_42 : decode cX3_speed 42 = .ok (.aload_n 0, 1) := by decide +kernel
theorem dX3_speed_43 : decode cX3_speed 43 = .ok (.getfield 12, 3) := by decide +kernel
theorem dX3_speed_46 : decode cX3_speed 46 = .ok (.iload_n 1, 1) := by decide +kernel
theorem dX3_speed_47 : decode cX3_speed 47 = .ok (.invokevirtual 103, 3) := by decide +kernel
theorem dX3_speed_50 : decode cX3_speed 50 = .ok (.istore_n 3, 1) := by decide +kernel
theorem dX3_speed_51 : decode cX3_speed 51 = .ok (.aload_n 0, 1) := by decide +kernel
theorem dX3_speed_52 : decode cX3_speed 52 = .ok (.getfield 12, 3) := by decide +kernel
theorem dX3_speed_55 : decode cX3_speed 55 = .ok (.iload_n 1, 1) := by decide +kernel
theorem dX3_speed_56 : decode cX3_speed 56 = .ok (.iload_n 2, 1) := by decide +kernel
theorem dX3_speed_57 : decode cX3_speed 57 = .ok (.invokevirtual 106, 3) := by decide +kernel
theorem dX3_speed_60 : decode cX3_speed 60 = .ok (.aload_n 0, 1) := by decide +kernel
theorem dX3_speed_61 : decode cX3_speed 61 = .ok (.invokevirtual 82, 3) := by decide +kernel
theorem dX3_speed_64 : decode cX3_speed 64 = .ok (.iload_n 3, 1) := by decide +kernel
theorem dX3_speed_65 : decode cX3_speed 65 = .ok (.ireturn, 1) := by decide +kernel
set_option maxRecDepth 20000 in
theorem ggX3_jump_X1_has : GoodIn wsX3_jump wsX1_has := goodIn_r _ [14, 15, 116, 117, 118, 119, 120, 121, 122, 123] (by decide +kernel) (by decide +kernel)
set_option maxRecDepth 20000 in
theorem gX3_jump_X1_has : GoodIn wsX3_jump (wsV RX3 85 RX1 yX1_has wsX1_has) := goodIn_app (goodIn_of _ (by decide +kernel)) ggX3_jump_X1_has
set_option maxRecDepth 20000 in
theorem ggX3_jump_X3_isWithin : GoodIn wsX3_jump wsX3_isWithin := goodIn_r _ [19] (by decide +kernel) (by decide +kernel)
set_option maxRecDepth 20000 in
theorem gX3_jump_X3_isWithin : GoodIn wsX3_jump (va_wsS RX3 51 yX3_isWithin wsX3_isWithin) := goodIn_app (goodIn_of _ (by decide +kernel)) ggX3_jump_X3_isWithin
set_option maxRecDepth 20000 in
theorem ggX3_jump_X1_valueOf : GoodIn wsX3_jump wsX1_valueOf := goodIn_r _ [23, 24, 116, 117, 118, 119, 120, 121, 122, 123] (by decide +kernel) (by decide +kernel)
set_option maxRecDepth 20000 in
theorem gX3_jump_X1_valueOf : GoodIn wsX3_jump (wsV RX3 93 RX1 yX1_valueOf wsX1_valueOf) := goodIn_app (goodIn_of _ (by decide +kernel)) ggX3_jump_X1_valueOf
set_option maxRecDepth 20000 in
theorem ggX3_jump_X3_save : GoodIn wsX3_jump wsX3_save := goodIn_r _ [28, 29, 30, 7, 31, 32, 33, 18, 34, 35, 36, 37, 38, 13, 39, 15, 24, 40, 41, 42, 43, 44, 45, 108, 109, 110, 111, 112, 113, 114, 115, 116, 117, 118, 119, 120, 121, 122, 123] (by decide +kernel) (by decide +kernel)
set_option maxRecDepth 20000 in
theorem gX3_jump_X3_save : GoodIn wsX3_jump (wsV RX3 75 RX3 yX3_save wsX3_save) := goodIn_app (goodIn_of _ (by decide +kernel)) ggX3_jump_X3_save
set_option maxRecDepth 20000 in
theorem ggX3_jump_X1_changeValue : GoodIn wsX3_jump wsX1_changeValue := goodIn_r _ [49, 24, 50, 18, 51, 16, 17, 19, 116, 117, 118, 119, 120, 121, 122, 123] (by decide +kernel) (by decide +kernel)
set_option maxRecDepth 20000 in
theorem gX3_jump_X1_changeValue : GoodIn wsX3_jump (wsV RX3 115 RX1 yX1_changeValue wsX1_changeValue) := goodIn_app (goodIn_of _ (by decide +kernel)) ggX3_jump_X1_changeValue
set_option maxRecDepth 20000 in
theorem ggX3_jump_X3_foresee : GoodIn wsX3_jump wsX3_foresee := goodIn_r _ [55, 7, 56, 57, 58, 18, 59, 60, 61, 62, 63, 64, 65, 66, 67, 68, 69, 70, 71, 72, 13, 73, 74, 11, 12, 14, 15, 75, 76, 77, 78, 40, 79, 80, 81, 82, 83, 21, 22, 23, 24, 84, 85, 86, 87, 44, 88, 89, 90, 91, 92, 93, 94, 95, 96, 97, 98, 99, 100, 101, 102, 103, 104, 105, 106, 107, 108, 109, 110, 111, 112, 113, 114, 115, 124, 125, 126, 127, 128, 129, 116, 117, 118, 119, 120, 121, 122, 123] (by decide +kernel) (by decide +kernel)
set_option maxRecDepth 20000 in
theorem gX3_jump_X3_foresee : GoodIn wsX3_jump (wsV RX3 82 RX3 yX3_foresee wsX3_foresee) := goodIn_app (goodIn_of _ (by decide +kernel)) ggX3_jump_X3_foresee
theorem dX3_jump_0 : decode cX3_jump 0 = .ok (.aload_n 0, 1) := by decide +kernel
theorem dX3_jump_1 : decode cX3_jump 1 = .ok (.getfield 12, 3) := by decide +kernel
theorem dX3_jump_4 : decode cX3_jump 4 = .ok (.iload_n 1, 1) := by decide +kernel
theorem dX3_jump_5 : decode cX3_jump 5 = .ok (.invokevirtual 85, 3) := by decide +kernel
theorem dX3_jump_8 : decode cX3_jump 8 = .ok (.ifCond .ne 13, 3) := by decide +kernel
theorem dX3_jump_11 : decode cX3_jump 11 = .ok (.new 88, 3) := by decide +kernel
theorem dX3_jump_14 : decode cX3_jump 14 = .ok (.dup, 1) := by decide +kernel
theorem dX3_jump_15 : decode cX3_jump 15 = .ok (.ldc 90, 2) := by decide +kernel
theorem dX3_jump_17 : decode cX3_jump 17 = .ok (.invokespecial 92, 3) := by decide +kernel
theorem dX3_jump_20 : decode cX3_jump 20 = .ok (.athrow, 1) := by decide +kernel
theorem dX3_jump_21 : decode cX3_jump 21 = .ok (.iload_n 2, 1) := by decide +kernel
theorem dX3_jump_22 : decode cX3_jump 22 = .ok (.sipush (-9999), 3) := by decide +kernel
theorem dX3_jump_25 : decode cX3_jump 25 = .ok (.sipush 9999, 3) := by decide +kernel
theorem dX3_jump_28 : decode cX3_jump 28 = .ok (.invokestatic 51, 3) := by decide +kernel
theorem dX3_jump_31 : decode cX3_jump 31 = .ok (.ifCond .ne 13, 3) := by decide +kernel
theorem dX3_jump_34 : decode cX3_jump 34 = .ok (.new 59, 3) := by decide +kernel
theorem dX3_jump_37 : decode cX3_jump 37 = .ok (.dup, 1) := by decide +kernel
theorem dX3_jump_38 : decode cX3_jump 38 = .ok (.ldc 109, 2) := by decide +kernel
theorem dX3_jump_40 : decode cX3_jump 40 = .ok (.invokespecial 63, 3) := by decide +kernel
theorem dX3_jump_43 : decode cX3_jump 43 = .ok (.athrow, 1) := by decide +kernel
theorem dX3_jump_44 : decode cX3_jump 44 = .ok (.aload_n 0, 1) := by decide +kernel
theorem dX3_jump_45 : decode cX3_jump 45 = .ok (.getfield 12, 3) := by decide +kernel
theorem dX3_jump_48 : decode cX3_jump 48 = .ok (.iload_n 1, 1) := by decide +kernel
theorem dX3_jump_49 : decode cX3_jump 49 = .ok (.invokevirtual 93, 3) := by decide +kernel
theorem dX3_jump_52 : decode cX3_jump 52 = .ok (.iload_n 2, 1) := by decide +kernel
theorem dX3_jump_53 : decode cX3_jump 53 = .ok (.iadd, 1) := by decide +kernel
theorem dX3_jump_54 : decode cX3_jump 54 = .ok (.istore_n 3, 1) := by decide +kernel
theorem dX3_jump_55 : decode cX3_jump 55 = .ok (.iload_n 3, 1) := by decide +kernel
theorem dX3_jump_56 : decode cX3_jump 56 = .ok (.ldc 111, 2) := by decide +kernel
theorem dX3_jump_58 : decode cX3_jump 58 = .ok (.ldc 112, 2) := by decide +kernel
theorem dX3_jump_60 : decode cX3_jump 60 = .ok (.invokestatic 51, 3) := by decide +kernel
theorem dX3_jump_63 : decode cX3_jump 63 = .ok (.ifCond .ne 13, 3) := by decide +kernel
theorem dX3_jump_66 : decode cX3_jump 66 = .ok (.new 70, 3) := by decide +kernel
theorem dX3_jump_69 : decode cX3_jump 69 = .ok (.dup, 1) := by decide +kernel
theorem dX3_jump_70 : decode cX3_jump 70 = .ok (.ldc 113, 2) := by decide +kernel
theorem dX3_jump_72 : decode cX3_jump 72 = .ok (.invokespecial 74, 3) := by decide +kernel
theorem dX3_jump_75 : decode cX3_jump 75 = .ok (.athrow, 1) := by decide +kernel
theorem dX3_jump_76 : decode cX3_jump 76 = .ok (.aload_n 0, 1) := by decide +kernel
theorem dX3_jump_77 : decode cX3_jump 77 = .ok (.invokevirtual 75, 3) := by decide +kernel
theorem dX3_jump_80 : decode cX3_jump 80 = .ok (.aload_n 0, 1) := by decide +kernel
theorem dX3_jump_81 : decode cX3_jump 81 = .ok (.getfield 12, 3) := by decide +kernel
theorem dX3_jump_84 : decode cX3_jump 84 = .ok (.iload_n 1, 1) := by decide +kernel
theorem dX3_jump_85 : decode cX3_jump 85 = .ok (.iload_n 3, 1) := by decide +kernel
theorem dX3_jump_86 : decode cX3_jump 86 = .ok (.invokevirtual 115, 3) := by decide +kernel
theorem dX3_jump_89 : decode cX3_jump 89 = .ok (.aload_n 0, 1) := by decide +kernel
theorem dX3_jump_90 : decode cX3_jump 90 = .ok (.invokevirtual 82, 3) := by decide +kernel
theorem dX3_jump_93 : decode cX3_jump 93 = .ok (.iload_n 3, 1) := by decide +kernel
theorem dX3_jump_94 : decode cX3_jump 94 = .ok (.ireturn, 1) := by decide +kernel
set_option maxRecDepth 20000 in
theorem ggX3_swap_X3_isSlot : GoodIn wsX3_swap wsX3_isSlot := goodIn_r _ [8, 9, 10, 7, 11] (by decide +kernel) (by decide +kernel)
set_option maxRecDepth 20000 in
theorem gX3_swap_X3_isSlot : GoodIn wsX3_swap (va_wsS RX3 118 yX3_isSlot wsX3_isSlot) := goodIn_app (goodIn_of _ (by decide +kernel)) ggX3_swap_X3_isSlot
set_option maxRecDepth 20000 in
theorem ggX3_swap_X3_save : GoodIn wsX3_swap wsX3_save := goodIn_r _ [15, 16, 17, 4, 18, 19, 20, 7, 21, 22, 23, 24, 25, 26, 27, 28, 29, 30, 31, 32, 33, 34, 35, 117, 118, 119, 120, 121, 122, 123, 124, 125, 126, 127, 128, 129, 130, 131, 132] (by decide +kernel) (by decide +kernel)
set_option maxRecDepth 20000 in
theorem gX3_swap_X3_save : GoodIn wsX3_swap (wsV RX3 75 RX3 yX3_save wsX3_save) := goodIn_app (goodIn_of _ (by decide +kernel)) ggX3_swap_X3_save
set_option maxRecDepth 20000 in
theorem ggX3_swap_X3_winnerOf : GoodIn wsX3_swap wsX3_winnerOf := goodIn_r _ [39, 40, 41, 42, 7, 43, 44, 45, 46, 47, 48, 49, 50, 51, 52, 53, 54, 55, 56, 117, 118, 119, 120, 121, 122, 123, 124, 133, 134, 135, 136, 137, 138] (by decide +kernel) (by decide +kernel)
set_option maxRecDepth 20000 in
theorem gX3_swap_X3_winnerOf : GoodIn wsX3_swap (wsV RX3 123 RX3 yX3_winnerOf wsX3_winnerOf) := goodIn_app (goodIn_of _ (by decide +kernel)) ggX3_swap_X3_winnerOf
set_option maxRecDepth 20000 in
theorem ggX3_swap_X1_exchange : GoodIn wsX3_swap wsX1_exchange := goodIn_r _ [60, 28, 29, 30, 31, 6, 7, 8, 9, 10, 11, 61, 62, 26, 63, 125, 126, 127, 128, 129, 130, 131, 132] (by decide +kernel) (by decide +kernel)
set_option maxRecDepth 20000 in
theorem gX3_swap_X1_exchange : GoodIn wsX3_swap (wsV RX3 126 RX1 yX1_exchange wsX1_exchange) := goodIn_app (goodIn_of _ (by decide +kernel)) ggX3_swap_X1_exchange
set_option maxRecDepth 20000 in
theorem ggX3_swap_X3_foresee : GoodIn wsX3_swap wsX3_foresee := goodIn_r _ [67, 4, 40, 41, 42, 7, 43, 44, 45, 68, 69, 70, 49, 71, 56, 72, 73, 74, 75, 76, 26, 77, 78, 79, 80, 81, 28, 82, 83, 84, 85, 30, 86, 87, 88, 89, 90, 91, 92, 93, 29, 94, 95, 96, 97, 34, 98, 99, 100, 101, 51, 102, 103, 104, 105, 106, 107, 108, 109, 110, 111, 112, 113, 114, 115, 116, 117, 118, 119, 120, 121, 122, 123, 124, 133, 134, 135, 136, 137, 138, 125, 126, 127, 128, 129, 130, 131, 132] (by decide +kernel) (by decide +kernel)
set_option maxRecDepth 20000 in
theorem gX3_swap_X3_foresee : GoodIn wsX3_swap (wsV RX3 82 RX3 yX3_foresee wsX3_foresee) := goodIn_app (goodIn_of _ (by decide +kernel)) ggX3_swap_X3_foresee
theorem dX3_swap_0 : decode cX3_swap 0 = .ok (.iload_n 1, 1) := by decide +kernel
theorem dX3_swap_1 : decode cX3_swap 1 = .ok (.invokestatic 118, 3) := by decide +kernel
theorem dX3_swap_4 : decode cX3_swap 4 = .ok (.ifCond .eq 10, 3) := by decide +kernel
theorem dX3_swap_7 : decode cX3_swap 7 = .ok (.iload_n 2, 1) := by decide +kernel
theorem dX3_swap_8 : decode cX3_swap 8 = .ok (.invokestatic 118, 3) := by decide +kernel
theorem dX3_swap_11 : decode cX3_swap 11 = .ok (.ifCond .ne 13, 3) := by decide +kernel
theorem dX3_swap_14 : decode cX3_swap 14 = .ok (.new 88, 3) := by decide +kernel
theorem dX3_swap_17 : decode cX3_swap 17 = .ok (.dup, 1) := by decide +kernel
theorem dX3_swap_18 : decode cX3_swap 18 = .ok (.ldc 121, 2) := by decide +kernel
theorem dX3_swap_20 : decode cX3_swap 20 = .ok (.invokespecial 92, 3) := by decide +kernel
theorem dX3_swap_23 : decode cX3_swap 23 = .ok (.athrow, 1) := by decide +kernel
theorem dX3_swap_24 : decode cX3_swap 24 = .ok (.aload_n 0, 1) := by decide +kernel
theorem dX3_swap_25 : decode cX3_swap 25 = .ok (.invokevirtual 75, 3) := by decide +kernel
theorem dX3_swap_28 : decode cX3_swap 28 = .ok (.iconst 1, 1) := by decide +kernel
theorem dX3_swap_29 : decode cX3_swap 29 = .ok (.istore_n 3, 1) := by decide +kernel
theorem dX3_swap_30 : decode cX3_swap 30 = .ok (.iload_n 3, 1) := by decide +kernel
theorem dX3_swap_31 : decode cX3_swap 31 = .ok (.bipush 15, 2) := by decide +kernel
theorem dX3_swap_33 : decode cX3_swap 33 = .ok (.if_icmp .gt 20, 3) := by decide +kernel
theorem dX3_swap_36 : decode cX3_swap 36 = .ok (.aload_n 0, 1) := by decide +kernel
theorem dX3_swap_37 : decode cX3_swap 37 = .ok (.getfield 40, 3) := by decide +kernel
theorem dX3_swap_40 : decode cX3_swap 40 = .ok (.iload_n 3, 1) := by decide +kernel
theorem dX3_swap_41 : decode cX3_swap 41 = .ok (.aload_n 0, 1) := by decide +kernel
theorem dX3_swap_42 : decode cX3_swap 42 = .ok (.iload_n 3, 1) := by decide +kernel
theorem dX3_swap_43 : decode cX3_swap 43 = .ok (.invokevirtual 123, 3) := by decide +kernel
theorem dX3_swap_46 : decode cX3_swap 46 = .ok (.iastore, 1) := by decide +kernel
theorem dX3_swap_47 : decode cX3_swap 47 = .ok (.iinc 3 1, 3) := by decide +kernel
theorem dX3_swap_50 : decode cX3_swap 50 = .ok (.goto (-20), 3) := by decide +kernel
theorem dX3_swap_53 : decode cX3_swap 53 = .ok (.aload_n 0, 1) := by decide +kernel
theorem dX3_swap_54 : decode cX3_swap 54 = .ok (.getfield 12, 3) := by decide +kernel
theorem dX3_swap_57 : decode cX3_swap 57 = .ok (.iload_n 1, 1) := by decide +kernel
theorem dX3_swap_58 : decode cX3_swap 58 = .ok (.iload_n 2, 1) := by decide +kernel
theorem dX3_swap_59 : decode cX3_swap 59 = .ok (.invokevirtual 126, 3) := by decide +kernel
theorem dX3_swap_62 : decode cX3_swap 62 = .ok (.aload_n 0, 1) := by decide +kernel
theorem dX3_swap_63 : decode cX3_swap 63 = .ok (.invokevirtual 82, 3) := by decide +kernel
theorem dX3_swap_66 : decode cX3_swap 66 = .ok (.iconst 0, 1) := by decide +kernel
theorem dX3_swap_67 : decode cX3_swap 67 = .ok (.istore_n 3, 1) := by decide +kernel
theorem dX3_swap_68 : decode cX3_swap 68 = .ok (.iconst 1, 1) := by decide +kernel
theorem dX3_swap_69 : decode cX3_swap 69 = .ok (.istore 4, 2) := by decide +kernel
theorem dX3_swap_71 : decode cX3_swap 71 = .ok (.iload 4, 2) := by decide +kernel
theorem dX3_swap_73 : decode cX3_swap 73 = .ok (.bipush 15, 2) := by decide +kernel
theorem dX3_swap_75 : decode cX3_swap 75 = .ok (.if_icmp .gt 56, 3) := by decide +kernel
theorem dX3_swap_78 : decode cX3_swap 78 = .ok (.aload_n 0, 1) := by decide +kernel
theorem dX3_swap_79 : decode cX3_swap 79 = .ok (.getfield 40, 3) := by decide +kernel
theorem dX3_swap_82 : decode cX3_swap 82 = .ok (.iload 4, 2) := by decide +kernel
theorem dX3_swap_84 : decode cX3_swap 84 = .ok (.iaload, 1) := by decide +kernel
theorem dX3_swap_85 : decode cX3_swap 85 = .ok (.istore 5, 2) := by decide +kernel
theorem dX3_swap_87 : decode cX3_swap 87 = .ok (.iload 5, 2) := by decide +kernel
theorem dX3_swap_89 : decode cX3_swap 89 = .ok (.iload_n 1, 1) := by decide +kernel
theorem dX3_swap_90 : decode cX3_swap 90 = .ok (.if_icmp .ne 7, 3) := by decide +kernel
theorem dX3_swap_93 : decode cX3_swap 93 = .ok (.iload_n 2, 1) := by decide +kernel
theorem dX3_swap_94 : decode cX3_swap 94 = .ok (.goto 15, 3) := by decide +kernel
theorem dX3_swap_97 : decode cX3_swap 97 = .ok (.iload 5, 2) := by decide +kernel
theorem dX3_swap_99 : decode cX3_swap 99 = .ok (.iload_n 2, 1) := by decide +kernel
theorem dX3_swap_100 : decode cX3_swap 100 = .ok (.if_icmp .ne 7, 3) := by decide +kernel
theorem dX3_swap_103 : decode cX3_swap 103 = .ok (.iload_n 1, 1) := by decide +kernel
theorem dX3_swap_104 : decode cX3_swap 104 = .ok (.goto 5, 3) := by decide +kernel
theorem dX3_swap_107 : decode cX3_swap 107 = .ok (.iload 5, 2) := by decide +kernel
theorem dX3_swap_109 : decode cX3_swap 109 = .ok (.istore 6, 2) := by decide +kernel
theorem dX3_swap_111 : decode cX3_swap 111 = .ok (.aload_n 0, 1) := by decide +kernel
theorem dX3_swap_112 : decode cX3_swap 112 = .ok (.iload 4, 2) := by decide +kernel
theorem dX3_swap_114 : decode cX3_swap 114 = .ok (.invokevirtual 123, 3) := by decide +kernel
theorem dX3_swap_117 : decode cX3_swap 117 = .ok (.iload 6, 2) := by decide +kernel
theorem dX3_swap_119 : decode cX3_swap 119 = .ok (.if_icmp .eq 6, 3) := by decide +kernel
theorem dX3_swap_122 : decode cX3_swap 122 = .ok (.iinc 3 1, 3) := by decide +kernel
theorem dX3_swap_125 : decode cX3_swap 125 = .ok (.iinc 4 1, 3) := by decide +kernel
theorem dX3_swap_128 : decode cX3_swap 128 = .ok (.goto (-57), 3) := by decide +kernel
theorem dX3_swap_131 : decode cX3_swap 131 = .ok (.iload_n 3, 1) := by decide +kernel
theorem dX3_swap_132 : decode cX3_swap 132 = .ok (.ireturn, 1) := by decide +kernel
set_option maxRecDepth 20000 in
theorem ggX3_pass_X3_isWithin : GoodIn wsX3_pass wsX3_isWithin := goodIn_r _ [10] (by decide +kernel) (by decide +kernel)
set_option maxRecDepth 20000 in
theorem gX3_pass_X3_isWithin : GoodIn wsX3_pass (va_wsS RX3 51 yX3_isWithin wsX3_isWithin) := goodIn_app (goodIn_of _ (by decide +kernel)) ggX3_pass_X3_isWithin
set_option maxRecDepth 20000 in
theorem ggX3_pass_X3_letPass : GoodIn wsX3_pass wsX3_letPass := goodIn_r _ [14, 5, 15, 16, 17, 9, 18, 19, 20, 21, 22, 23, 24, 25, 26, 27, 28, 29, 30, 31, 32, 33, 34, 35, 36, 37, 38, 39, 40, 41, 42, 43, 44, 45, 46, 47, 48, 49, 50, 51, 52, 53, 54, 55, 56, 8, 10, 57, 58, 59, 60, 61, 62, 63, 64, 65, 66, 67, 68, 69, 70, 71, 72, 73, 74, 75, 76, 77, 78, 79, 80, 81, 82, 83, 84, 85, 86, 87, 88, 89, 90, 91, 92, 93, 94, 95, 96, 97, 98, 99, 100, 101, 102, 103, 104, 105, 106, 107, 108, 109, 110, 111, 112, 113, 114, 115, 116, 117, 118, 119, 120, 121, 122, 123, 124, 125, 126, 127, 128, 129, 130, 131, 132, 133, 134] (by decide +kernel) (by decide +kernel)
set_option maxRecDepth 20000 in
theorem gX3_pass_X3_letPass : GoodIn wsX3_pass (wsV RX3 134 RX3 yX3_letPass wsX3_letPass) := goodIn_app (goodIn_of _ (by decide +kernel)) ggX3_pass_X3_letPass
theorem dX3_pass_0 : decode cX3_pass 0 = .ok (.iload_n 1, 1) := by decide +kernel
theorem dX3_pass_1 : decode cX3_pass 1 = .ok (.iconst 1, 1) := by decide +kernel
theorem dX3_pass_2 : decode cX3_pass 2 = .ok (.bipush 99, 2) := by decide +kernel
theorem dX3_pass_4 : decode cX3_pass 4 = .ok (.invokestatic 51, 3) := by decide +kernel
theorem dX3_pass_7 : decode cX3_pass 7 = .ok (.ifCond .ne 13, 3) := by decide +kernel
theorem dX3_pass_10 : decode cX3_pass 10 = .ok (.new 59, 3) := by decide +kernel
theorem dX3_pass_13 : decode cX3_pass 13 = .ok (.dup, 1) := by decide +kernel
theorem dX3_pass_14 : decode cX3_pass 14 = .ok (.ldc 109, 2) := by decide +kernel
theorem dX3_pass_16 : decode cX3_pass 16 = .ok (.invokespecial 63, 3) := by decide +kernel
theorem dX3_pass_19 : decode cX3_pass 19 = .ok (.athrow, 1) := by decide +kernel
theorem dX3_pass_20 : decode cX3_pass 20 = .ok (.aload_n 0, 1) := by decide +kernel
theorem dX3_pass_21 : decode cX3_pass 21 = .ok (.getfield 12, 3) := by decide +kernel
theorem dX3_pass_24 : decode cX3_pass 24 = .ok (.getfield 129, 3) := by decide +kernel
theorem dX3_pass_27 : decode cX3_pass 27 = .ok (.iload_n 1, 1) := by decide +kernel
theorem dX3_pass_28 : decode cX3_pass 28 = .ok (.iadd, 1) := by decide +kernel
theorem dX3_pass_29 : decode cX3_pass 29 = .ok (.sipush 9999, 3) := by decide +kernel
theorem dX3_pass_32 : decode cX3_pass 32 = .ok (.if_icmp .le 13, 3) := by decide +kernel
theorem dX3_pass_35 : decode cX3_pass 35 = .ok (.new 70, 3) := by decide +kernel
theorem dX3_pass_38 : decode cX3_pass 38 = .ok (.dup, 1) := by decide +kernel
theorem dX3_pass_39 : decode cX3_pass 39 = .ok (.ldc 132, 2) := by decide +kernel
theorem dX3_pass_41 : decode cX3_pass 41 = .ok (.invokespecial 74, 3) := by decide +kernel
theorem dX3_pass_44 : decode cX3_pass 44 = .ok (.athrow, 1) := by decide +kernel
theorem dX3_pass_45 : decode cX3_pass 45 = .ok (.aload_n 0, 1) := by decide +kernel
theorem dX3_pass_46 : decode cX3_pass 46 = .ok (.iload_n 1, 1) := by decide +kernel
theorem dX3_pass_47 : decode cX3_pass 47 = .ok (.invokevirtual 134, 3) := by decide +kernel
theorem dX3_pass_50 : decode cX3_pass 50 = .ok (.ireturn, 1) := by decide +kernel
set_option maxRecDepth 20000 in
theorem ggX3_passToTurn_X3_firstToTurn : GoodIn wsX3_passToTurn wsX3_firstToTurn := goodIn_r _ [9, 10, 11, 12, 13, 8, 14, 15, 16, 17, 18, 19, 20, 21, 22, 23, 24, 25, 26, 27, 28, 29, 30, 31, 32, 33, 34, 35, 36, 151, 152, 153, 154, 155, 156, 135, 136, 137, 138, 139, 140, 141, 142] (by decide +kernel) (by decide +kernel)
set_option maxRecDepth 20000 in
theorem gX3_passToTurn_X3_firstToTurn : GoodIn wsX3_passToTurn (wsV RX3 137 RX3 yX3_firstToTurn wsX3_firstToTurn) := goodIn_app (goodIn_of _ (by decide +kernel)) ggX3_passToTurn_X3_firstToTurn
set_option maxRecDepth 20000 in
theorem ggX3_passToTurn_X3_courseOf : GoodIn wsX3_passToTurn wsX3_courseOf := goodIn_r _ [14, 15, 16, 135, 136, 137, 138, 139, 140, 141, 142] (by decide +kernel) (by decide +kernel)
set_option maxRecDepth 20000 in
theorem gX3_passToTurn_X3_courseOf : GoodIn wsX3_passToTurn (wsV RX3 142 RX3 yX3_courseOf wsX3_courseOf) := goodIn_app (goodIn_of _ (by decide +kernel)) ggX3_passToTurn_X3_courseOf
set_option maxRecDepth 20000 in
theorem ggX3_passToTurn_X0_wholeUnitsTo : GoodIn wsX3_passToTurn wsX0_wholeUnitsTo := goodIn_r _ [40, 33, 34, 35, 20, 36, 26, 28, 29, 30, 31, 32, 22, 23, 24, 25, 27, 151, 152, 153, 154, 155, 156] (by decide +kernel) (by decide +kernel)
set_option maxRecDepth 20000 in
theorem gX3_passToTurn_X0_wholeUnitsTo : GoodIn wsX3_passToTurn (wsV RX3 146 RX0 yX0_wholeUnitsTo wsX0_wholeUnitsTo) := goodIn_app (goodIn_of _ (by decide +kernel)) ggX3_passToTurn_X0_wholeUnitsTo
set_option maxRecDepth 20000 in
theorem ggX3_passToTurn_X3_letPass : GoodIn wsX3_passToTurn wsX3_letPass := goodIn_r _ [44, 3, 45, 46, 47, 8, 48, 49, 50, 51, 52, 53, 54, 55, 56, 57, 58, 59, 60, 61, 62, 63, 64, 65, 66, 67, 68, 11, 12, 13, 14, 15, 16, 69, 70, 71, 20, 72, 32, 27, 26, 73, 74, 75, 76, 77, 78, 79, 80, 81, 82, 83, 84, 85, 86, 87, 88, 89, 90, 91, 92, 93, 94, 95, 96, 97, 98, 99, 100, 101, 102, 103, 104, 105, 106, 107, 108, 109, 110, 111, 112, 113, 114, 115, 116, 117, 118, 119, 120, 121, 122, 123, 124, 125, 126, 127, 128, 129, 130, 131, 132, 133, 134, 135, 136, 137, 138, 139, 140, 141, 142, 143, 144, 145, 146, 147, 148, 149, 150, 151, 152, 153, 154, 155, 156] (by decide +kernel) (by decide +kernel)
set_option maxRecDepth 20000 in
theorem gX3_passToTurn_X3_letPass : GoodIn wsX3_passToTurn (wsV RX3 134 RX3 yX3_letPass wsX3_letPass) := goodIn_app (goodIn_of _ (by decide +kernel)) ggX3_passToTurn_X3_letPass
theorem dX3_passToTurn_0 : decode cX3_passToTurn 0 = .ok (.aload_n 0, 1) := by decide +kernel
theorem dX3_passToTurn_1 : decode cX3_passToTurn 1 = .ok (.invokevirtual 137, 3) := by decide +kernel
theorem dX3_passToTurn_4 : decode cX3_passToTurn 4 = .ok (.istore_n 1, 1) := by decide +kernel
theorem dX3_passToTurn_5 : decode cX3_passToTurn 5 = .ok (.iload_n 1, 1) := by decide +kernel
theorem dX3_passToTurn_6 : decode cX3_passToTurn 6 = .ok (.iconst (-1), 1) := by decide +kernel
theorem dX3_passToTurn_7 : decode cX3_passToTurn 7 = .ok (.if_icmp .ne 13, 3) := by decide +kernel
theorem dX3_passToTurn_10 : decode cX3_passToTurn 10 = .ok (.new 70, 3) := by decide +kernel
theorem dX3_passToTurn_13 : decode cX3_passToTurn 13 = .ok (.dup, 1) := by decide +kernel
theorem dX3_passToTurn_14 : decode cX3_passToTurn 14 = .ok (.ldc 140, 2) := by decide +kernel
theorem dX3_passToTurn_16 : decode cX3_passToTurn 16 = .ok (.invokespecial 74, 3) := by decide +kernel
theorem dX3_passToTurn_19 : decode cX3_passToTurn 19 = .ok (.athrow, 1) := by decide +kernel
theorem dX3_passToTurn_20 : decode cX3_passToTurn 20 = .ok (.aload_n 0, 1) := by decide +kernel
theorem dX3_passToTurn_21 : decode cX3_passToTurn 21 = .ok (.iload_n 1, 1) := by decide +kernel
theorem dX3_passToTurn_22 : decode cX3_passToTurn 22 = .ok (.invokevirtual 142, 3) := by decide +kernel
theorem dX3_passToTurn_25 : decode cX3_passToTurn 25 = .ok (.iconst 1, 1) := by decide +kernel
theorem dX3_passToTurn_26 : decode cX3_passToTurn 26 = .ok (.invokevirtual 146, 3) := by decide +kernel
theorem dX3_passToTurn_29 : decode cX3_passToTurn 29 = .ok (.istore_n 2, 1) := by decide +kernel
theorem dX3_passToTurn_30 : decode cX3_passToTurn 30 = .ok (.iload_n 2, 1) := by decide +kernel
theorem dX3_passToTurn_31 : decode cX3_passToTurn 31 = .ok (.sipush 9999, 3) := by decide +kernel
theorem dX3_passToTurn_34 : decode cX3_passToTurn 34 = .ok (.aload_n 0, 1) := by decide +kernel
theorem dX3_passToTurn_35 : decode cX3_passToTurn 35 = .ok (.getfield 12, 3) := by decide +kernel
theorem dX3_passToTurn_38 : decode cX3_passToTurn 38 = .ok (.getfield 129, 3) := by decide +kernel
theorem dX3_passToTurn_41 : decode cX3_passToTurn 41 = .ok (.isub, 1) := by decide +kernel
theorem dX3_passToTurn_42 : decode cX3_passToTurn 42 = .ok (.if_icmp .le 13, 3) := by decide +kernel
theorem dX3_passToTurn_45 : decode cX3_passToTurn 45 = .ok (.new 70, 3) := by decide +kernel
theorem dX3_passToTurn_48 : decode cX3_passToTurn 48 = .ok (.dup, 1) := by decide +kernel
theorem dX3_passToTurn_49 : decode cX3_passToTurn 49 = .ok (.ldc 132, 2) := by decide +kernel
theorem dX3_passToTurn_51 : decode cX3_passToTurn 51 = .ok (.invokespecial 74, 3) := by decide +kernel
theorem dX3_passToTurn_54 : decode cX3_passToTurn 54 = .ok (.athrow, 1) := by decide +kernel
theorem dX3_passToTurn_55 : decode cX3_passToTurn 55 = .ok (.aload_n 0, 1) := by decide +kernel
theorem dX3_passToTurn_56 : decode cX3_passToTurn 56 = .ok (.iload_n 2, 1) := by decide +kernel
theorem dX3_passToTurn_57 : decode cX3_passToTurn 57 = .ok (.invokevirtual 134, 3) := by decide +kernel
theorem dX3_passToTurn_60 : decode cX3_passToTurn 60 = .ok (.ireturn, 1) := by decide +kernel
set_option maxRecDepth 20000 in
theorem ggX3_set_X3_isWithin : GoodIn wsX3_set wsX3_isWithin := goodIn_r _ [11] (by decide +kernel) (by decide +kernel)
set_option maxRecDepth 20000 in
theorem gX3_set_X3_isWithin : GoodIn wsX3_set (va_wsS RX3 51 yX3_isWithin wsX3_isWithin) := goodIn_app (goodIn_of _ (by decide +kernel)) ggX3_set_X3_isWithin
set_option maxRecDepth 20000 in
theorem ggX3_set_X3_save : GoodIn wsX3_set wsX3_save := goodIn_r _ [15, 16, 17, 5, 18, 19, 20, 10, 21, 22, 23, 24, 25, 26, 27, 28, 29, 30, 31, 32, 33, 34, 35, 102, 103, 104, 105, 106, 107, 108, 109, 110, 111, 112, 113, 114, 115, 116, 117] (by decide +kernel) (by decide +kernel)
set_option maxRecDepth 20000 in
theorem gX3_set_X3_save : GoodIn wsX3_set (wsV RX3 75 RX3 yX3_save wsX3_save) := goodIn_app (goodIn_of _ (by decide +kernel)) ggX3_set_X3_save
set_option maxRecDepth 20000 in
theorem ggX3_set_X3_setting : GoodIn wsX3_set wsX3_setting := goodIn_ca (goodIn_r _ [39, 1, 2, 5, 6, 7, 102, 103, 104, 105, 106, 107, 108, 109, 110, 111, 112, 113, 114, 115, 116, 117] (by decide +kernel) (by decide +kernel)) (goodIn_sub (fun _ h => List.mem_cons_of_mem _ (List.mem_append_left _ (List.mem_append_right _ h))) (by decide +kernel))
set_option maxRecDepth 20000 in
theorem gX3_set_X3_setting : GoodIn wsX3_set (wsV RX3 153 RX3 yX3_setting wsX3_setting) := goodIn_app (goodIn_of _ (by decide +kernel)) ggX3_set_X3_setting
set_option maxRecDepth 20000 in
theorem ggX3_set_X3_foresee : GoodIn wsX3_set wsX3_foresee := goodIn_r _ [43, 5, 44, 45, 46, 10, 47, 48, 49, 50, 51, 52, 53, 54, 55, 56, 57, 58, 59, 60, 26, 61, 62, 63, 64, 65, 28, 66, 67, 68, 69, 30, 70, 71, 72, 73, 74, 75, 76, 77, 29, 78, 79, 80, 81, 34, 82, 83, 84, 85, 86, 87, 88, 89, 90, 91, 92, 93, 94, 95, 96, 97, 98, 99, 100, 101, 102, 103, 104, 105, 106, 107, 108, 109, 118, 119, 120, 121, 122, 123, 110, 111, 112, 113, 114, 115, 116, 117] (by decide +kernel) (by decide +kernel)
set_option maxRecDepth 20000 in
theorem gX3_set_X3_foresee : GoodIn wsX3_set (wsV RX3 82 RX3 yX3_foresee wsX3_foresee) := goodIn_app (goodIn_of _ (by decide +kernel)) ggX3_set_X3_foresee
theorem dX3_set_0 : decode cX3_set 0 = .ok (.iload_n 1, 1) := by decide +kernel
theorem dX3_set_1 : decode cX3_set 1 = .ok (.ifCond .eq 18, 3) := by decide +kernel
theorem dX3_set_4 : decode cX3_set 4 = .ok (.iload_n 1, 1) := by decide +kernel
theorem dX3_set_5 : decode cX3_set 5 = .ok (.iconst 1, 1) := by decide +kernel
theorem dX3_set_6 : decode cX3_set 6 = .ok (.if_icmp .eq 13, 3) := by decide +kernel
theorem dX3_set_9 : decode cX3_set 9 = .ok (.new 88, 3) := by decide +kernel
theorem dX3_set_12 : decode cX3_set 12 = .ok (.dup, 1) := by decide +kernel
theorem dX3_set_13 : decode cX3_set 13 = .ok (.ldc 149, 2) := by decide +kernel
theorem dX3_set_15 : decode cX3_set 15 = .ok (.invokespecial 92, 3) := by decide +kernel
theorem dX3_set_18 : decode cX3_set 18 = .ok (.athrow, 1) := by decide +kernel
theorem dX3_set_19 : decode cX3_set 19 = .ok (.iload_n 1, 1) := by decide +kernel
theorem dX3_set_20 : decode cX3_set 20 = .ok (.ifCond .ne 12, 3) := by decide +kernel
theorem dX3_set_23 : decode cX3_set 23 = .ok (.iload_n 2, 1) := by decide +kernel
theorem dX3_set_24 : decode cX3_set 24 = .ok (.iconst 0, 1) := by decide +kernel
theorem dX3_set_25 : decode cX3_set 25 = .ok (.iconst 1, 1) := by decide +kernel
theorem dX3_set_26 : decode cX3_set 26 = .ok (.invokestatic 51, 3) := by decide +kernel
theorem dX3_set_29 : decode cX3_set 29 = .ok (.goto 11, 3) := by decide +kernel
theorem dX3_set_32 : decode cX3_set 32 = .ok (.iload_n 2, 1) := by decide +kernel
theorem dX3_set_33 : decode cX3_set 33 = .ok (.iconst 1, 1) := by decide +kernel
theorem dX3_set_34 : decode cX3_set 34 = .ok (.sipush 999, 3) := by decide +kernel
theorem dX3_set_37 : decode cX3_set 37 = .ok (.invokestatic 51, 3) := by decide +kernel
theorem dX3_set_40 : decode cX3_set 40 = .ok (.istore_n 3, 1) := by decide +kernel
theorem dX3_set_41 : decode cX3_set 41 = .ok (.iload_n 3, 1) := by decide +kernel
theorem dX3_set_42 : decode cX3_set 42 = .ok (.ifCond .ne 13, 3) := by decide +kernel
theorem dX3_set_45 : decode cX3_set 45 = .ok (.new 59, 3) := by decide +kernel
theorem dX3_set_48 : decode cX3_set 48 = .ok (.dup, 1) := by decide +kernel
theorem dX3_set_49 : decode cX3_set 49 = .ok (.ldc 151, 2) := by decide +kernel
theorem dX3_set_51 : decode cX3_set 51 = .ok (.invokespecial 63, 3) := by decide +kernel
theorem dX3_set_54 : decode cX3_set 54 = .ok (.athrow, 1) := by decide +kernel
theorem dX3_set_55 : decode cX3_set 55 = .ok (.aload_n 0, 1) := by decide +kernel
theorem dX3_set_56 : decode cX3_set 56 = .ok (.invokevirtual 75, 3) := by decide +kernel
theorem dX3_set_59 : decode cX3_set 59 = .ok (.aload_n 0, 1) := by decide +kernel
theorem dX3_set_60 : decode cX3_set 60 = .ok (.iload_n 1, 1) := by decide +kernel
theorem dX3_set_61 : decode cX3_set 61 = .ok (.invokevirtual 153, 3) := by decide +kernel
theorem dX3_set_64 : decode cX3_set 64 = .ok (.istore 4, 2) := by decide +kernel
theorem dX3_set_66 : decode cX3_set 66 = .ok (.iload_n 1, 1) := by decide +kernel
theorem dX3_set_67 : decode cX3_set 67 = .ok (.ifCond .ne 14, 3) := by decide +kernel
theorem dX3_set_70 : decode cX3_set 70 = .ok (.aload_n 0, 1) := by decide +kernel
theorem dX3_set_71 : decode cX3_set 71 = .ok (.getfield 12, 3) := by decide +kernel
theorem dX3_set_74 : decode cX3_set 74 = .ok (.iload_n 2, 1) := by decide +kernel
theorem dX3_set_75 : decode cX3_set 75 = .ok (.putfield 156, 3) := by decide +kernel
theorem dX3_set_78 : decode cX3_set 78 = .ok (.goto 11, 3) := by decide +kernel
theorem dX3_set_81 : decode cX3_set 81 = .ok (.aload_n 0, 1) := by decide +kernel
theorem dX3_set_82 : decode cX3_set 82 = .ok (.getfield 12, 3) := by decide +kernel
theorem dX3_set_85 : decode cX3_set 85 = .ok (.iload_n 2, 1) := by decide +kernel
theorem dX3_set_86 : decode cX3_set 86 = .ok (.putfield 159, 3) := by decide +kernel
theorem dX3_set_89 : decode cX3_set 89 = .ok (.aload_n 0, 1) := by decide +kernel
theorem dX3_set_90 : decode cX3_set 90 = .ok (.invokevirtual 82, 3) := by decide +kernel
theorem dX3_set_93 : decode cX3_set 93 = .ok (.iload 4, 2) := by decide +kernel
theorem dX3_set_95 : decode cX3_set 95 = .ok (.ireturn, 1) := by decide +kernel
set_option maxRecDepth 20000 in
theorem ggX3_append_X3_isWithin : GoodIn wsX3_append wsX3_isWithin := goodIn_r _ [10] (by decide +kernel) (by decide +kernel)
set_option maxRecDepth 20000 in
theorem gX3_append_X3_isWithin : GoodIn wsX3_append (va_wsS RX3 51 yX3_isWithin wsX3_isWithin) := goodIn_app (goodIn_of _ (by decide +kernel)) ggX3_append_X3_isWithin
set_option maxRecDepth 20000 in
theorem ggX3_append_X2_put : GoodIn wsX3_append wsX2_put := goodIn_r _ [15, 16, 17, 26, 27, 28] (by decide +kernel) (by decide +kernel)
set_option maxRecDepth 20000 in
theorem gX3_append_X2_put : GoodIn wsX3_append (wsV RX3 169 RX2 yX2_put wsX2_put) := goodIn_app (goodIn_of _ (by decide +kernel)) ggX3_append_X2_put
theorem dX3_append_0 : decode cX3_append 0 = .ok (.iload_n 1, 1) := by decide +kernel
theorem dX3_append_1 : decode cX3_append 1 = .ok (.bipush 33, 2) := by decide +kernel
theorem dX3_append_3 : decode cX3_append 3 = .ok (.bipush 126, 2) := by decide +kernel
theorem dX3_append_5 : decode cX3_append 5 = .ok (.invokestatic 51, 3) := by decide +kernel
theorem dX3_append_8 : decode cX3_append 8 = .ok (.ifCond .ne 13, 3) := by decide +kernel
theorem dX3_append_11 : decode cX3_append 11 = .ok (.new 59, 3) := by decide +kernel
theorem dX3_append_14 : decode cX3_append 14 = .ok (.dup, 1) := by decide +kernel
theorem dX3_append_15 : decode cX3_append 15 = .ok (.ldc 162, 2) := by decide +kernel
theorem dX3_append_17 : decode cX3_append 17 = .ok (.invokespecial 63, 3) := by decide +kernel
theorem dX3_append_20 : decode cX3_append 20 = .ok (.athrow, 1) := by decide +kernel
theorem dX3_append_21 : decode cX3_append 21 = .ok (.aload_n 0, 1) := by decide +kernel
theorem dX3_append_22 : decode cX3_append 22 = .ok (.getfield 47, 3) := by decide +kernel
theorem dX3_append_25 : decode cX3_append 25 = .ok (.getfield 164, 3) := by decide +kernel
theorem dX3_append_28 : decode cX3_append 28 = .ok (.bipush 60, 2) := by decide +kernel
theorem dX3_append_30 : decode cX3_append 30 = .ok (.if_icmp .lt 13, 3) := by decide +kernel
theorem dX3_append_33 : decode cX3_append 33 = .ok (.new 70, 3) := by decide +kernel
theorem dX3_append_36 : decode cX3_append 36 = .ok (.dup, 1) := by decide +kernel
theorem dX3_append_37 : decode cX3_append 37 = .ok (.ldc 167, 2) := by decide +kernel
theorem dX3_append_39 : decode cX3_append 39 = .ok (.invokespecial 74, 3) := by decide +kernel
theorem dX3_append_42 : decode cX3_append 42 = .ok (.athrow, 1) := by decide +kernel
theorem dX3_append_43 : decode cX3_append 43 = .ok (.aload_n 0, 1) := by decide +kernel
theorem dX3_append_44 : decode cX3_append 44 = .ok (.getfield 47, 3) := by decide +kernel
theorem dX3_append_47 : decode cX3_append 47 = .ok (.iload_n 1, 1) := by decide +kernel
theorem dX3_append_48 : decode cX3_append 48 = .ok (.invokevirtual 169, 3) := by decide +kernel
theorem dX3_append_51 : decode cX3_append 51 = .ok (.aload_n 0, 1) := by decide +kernel
theorem dX3_append_52 : decode cX3_append 52 = .ok (.getfield 47, 3) := by decide +kernel
theorem dX3_append_55 : decode cX3_append 55 = .ok (.getfield 164, 3) := by decide +kernel
theorem dX3_append_58 : decode cX3_append 58 = .ok (.ireturn, 1) := by decide +kernel
theorem dX3_clearBuffer_0 : decode cX3_clearBuffer 0 = .ok (.aload_n 0, 1) := by decide +kernel
theorem dX3_clearBuffer_1 : decode cX3_clearBuffer 1 = .ok (.getfield 47, 3) := by decide +kernel
theorem dX3_clearBuffer_4 : decode cX3_clearBuffer 4 = .ok (.getfield 164, 3) := by decide +kernel
theorem dX3_clearBuffer_7 : decode cX3_clearBuffer 7 = .ok (.istore_n 1, 1) := by decide +kernel
theorem dX3_clearBuffer_8 : decode cX3_clearBuffer 8 = .ok (.aload_n 0, 1) := by decide +kernel
theorem dX3_clearBuffer_9 : decode cX3_clearBuffer 9 = .ok (.getfield 47, 3) := by decide +kernel
theorem dX3_clearBuffer_12 : decode cX3_clearBuffer 12 = .ok (.iconst 0, 1) := by decide +kernel
theorem dX3_clearBuffer_13 : decode cX3_clearBuffer 13 = .ok (.putfield 164, 3) := by decide +kernel
theorem dX3_clearBuffer_16 : decode cX3_clearBuffer 16 = .ok (.iload_n 1, 1) := by decide +kernel
theorem dX3_clearBuffer_17 : decode cX3_clearBuffer 17 = .ok (.ireturn, 1) := by decide +kernel
set_option maxRecDepth 20000 in
theorem ggX3_firstError_X2_soundLength : GoodIn wsX3_firstError wsX2_soundLength := goodIn_r _ [6, 7, 8, 9, 10, 5, 11, 12, 13, 14, 15, 16, 17, 18, 19, 20, 21, 22, 23, 24, 33, 34, 35] (by decide +kernel) (by decide +kernel)
set_option maxRecDepth 20000 in
theorem gX3_firstError_X2_soundLength : GoodIn wsX3_firstError (wsV RX3 171 RX2 yX2_soundLength wsX2_soundLength) := goodIn_app (goodIn_of _ (by decide +kernel)) ggX3_firstError_X2_soundLength
theorem dX3_firstError_0 : decode cX3_firstError 0 = .ok (.aload_n 0, 1) := by decide +kernel
theorem dX3_firstError_1 : decode cX3_firstError 1 = .ok (.getfield 47, 3) := by decide +kernel
theorem dX3_firstError_4 : decode cX3_firstError 4 = .ok (.invokevirtual 171, 3) := by decide +kernel
theorem dX3_firstError_7 : decode cX3_firstError 7 = .ok (.ireturn, 1) := by decide +kernel
set_option maxRecDepth 20000 in
theorem ggX3_addAll_X2_isComplete : GoodIn wsX3_addAll wsX2_isComplete := goodIn_r _ [12, 13, 14, 15, 16, 11, 17, 18, 19, 20, 21, 22, 23, 24, 25, 26, 27, 28, 29, 30, 160, 161, 162] (by decide +kernel) (by decide +kernel)
set_option maxRecDepth 20000 in
theorem gX3_addAll_X2_isComplete : GoodIn wsX3_addAll (wsV RX3 174 RX2 yX2_isComplete wsX2_isComplete) := goodIn_app (goodIn_of _ (by decide +kernel)) ggX3_addAll_X2_isComplete
set_option maxRecDepth 20000 in
theorem ggX3_addAll_X2_moversInside : GoodIn wsX3_addAll wsX2_moversInside := goodIn_r _ [34, 13, 14, 15, 16, 11, 17, 18, 160, 161, 162] (by decide +kernel) (by decide +kernel)
set_option maxRecDepth 20000 in
theorem gX3_addAll_X2_moversInside : GoodIn wsX3_addAll (wsV RX3 180 RX2 yX2_moversInside wsX2_moversInside) := goodIn_app (goodIn_of _ (by decide +kernel)) ggX3_addAll_X2_moversInside
set_option maxRecDepth 20000 in
theorem ggX3_addAll_X1_moverCount : GoodIn wsX3_addAll wsX1_moverCount := goodIn_r _ [39, 40, 163, 164, 165, 166, 167, 168, 169, 170] (by decide +kernel) (by decide +kernel)
set_option maxRecDepth 20000 in
theorem gX3_addAll_X1_moverCount : GoodIn wsX3_addAll (wsV RX3 183 RX1 yX1_moverCount wsX1_moverCount) := goodIn_app (goodIn_of _ (by decide +kernel)) ggX3_addAll_X1_moverCount
set_option maxRecDepth 20000 in
theorem ggX3_addAll_X3_save : GoodIn wsX3_addAll wsX3_save := goodIn_r _ [45, 46, 47, 6, 48, 49, 50, 44, 51, 52, 53, 54, 55, 38, 56, 40, 57, 58, 59, 60, 61, 62, 63, 152, 153, 154, 155, 156, 157, 158, 159, 163, 164, 165, 166, 167, 168, 169, 170] (by decide +kernel) (by decide +kernel)
set_option maxRecDepth 20000 in
theorem gX3_addAll_X3_save : GoodIn wsX3_addAll (wsV RX3 75 RX3 yX3_save wsX3_save) := goodIn_app (goodIn_of _ (by decide +kernel)) ggX3_addAll_X3_save
set_option maxRecDepth 20000 in
theorem ggX3_addAll_X2_startReading : GoodIn wsX3_addAll wsX2_startReading := goodIn_r _ [67, 68, 160, 161, 162] (by decide +kernel) (by decide +kernel)
set_option maxRecDepth 20000 in
theorem gX3_addAll_X2_startReading : GoodIn wsX3_addAll (wsV RX3 188 RX2 yX2_startReading wsX2_startReading) := goodIn_app (goodIn_of _ (by decide +kernel)) ggX3_addAll_X2_startReading
set_option maxRecDepth 20000 in
theorem ggX3_addAll_X2_readNumber : GoodIn wsX3_addAll wsX2_readNumber := goodIn_r _ [72, 68, 13, 14, 15, 16, 11, 17, 18, 28, 29, 30, 25, 26, 27, 160, 161, 162] (by decide +kernel) (by decide +kernel)
set_option maxRecDepth 20000 in
theorem gX3_addAll_X2_readNumber : GoodIn wsX3_addAll (wsV RX3 191 RX2 yX2_readNumber wsX2_readNumber) := goodIn_app (goodIn_of _ (by decide +kernel)) ggX3_addAll_X2_readNumber
set_option maxRecDepth 20000 in
theorem ggX3_addAll_X2_skipCode : GoodIn wsX3_addAll wsX2_skipCode := goodIn_r _ [76, 68, 160, 161, 162] (by decide +kernel) (by decide +kernel)
set_option maxRecDepth 20000 in
theorem gX3_addAll_X2_skipCode : GoodIn wsX3_addAll (wsV RX3 194 RX2 yX2_skipCode wsX2_skipCode) := goodIn_app (goodIn_of _ (by decide +kernel)) ggX3_addAll_X2_skipCode
set_option maxRecDepth 20000 in
theorem ggX3_addAll_X1_freeSlot : GoodIn wsX3_addAll wsX1_freeSlot := goodIn_r _ [80, 40, 163, 164, 165, 166, 167, 168, 169, 170] (by decide +kernel) (by decide +kernel)
set_option maxRecDepth 20000 in
theorem gX3_addAll_X1_freeSlot : GoodIn wsX3_addAll (wsV RX3 66 RX1 yX1_freeSlot wsX1_freeSlot) := goodIn_app (goodIn_of _ (by decide +kernel)) ggX3_addAll_X1_freeSlot
set_option maxRecDepth 20000 in
theorem ggX3_addAll_X1_put : GoodIn wsX3_addAll wsX1_put := goodIn_r _ [84, 40, 57, 58, 59, 61, 85, 44, 86, 87, 88, 89, 163, 164, 165, 166, 167, 168, 169, 170] (by decide +kernel) (by decide +kernel)
set_option maxRecDepth 20000 in
theorem gX3_addAll_X1_put : GoodIn wsX3_addAll (wsV RX3 78 RX1 yX1_put wsX1_put) := goodIn_app (goodIn_of _ (by decide +kernel)) ggX3_addAll_X1_put
set_option maxRecDepth 20000 in
theorem ggX3_addAll_X3_foresee : GoodIn wsX3_addAll wsX3_foresee := goodIn_r _ [93, 6, 94, 95, 96, 44, 97, 98, 99, 100, 101, 102, 103, 104, 105, 106, 107, 108, 109, 110, 38, 111, 112, 113, 114, 115, 40, 116, 117, 118, 119, 58, 120, 121, 122, 123, 124, 125, 126, 127, 57, 128, 129, 130, 131, 62, 132, 133, 134, 135, 136, 137, 138, 139, 140, 141, 142, 143, 144, 145, 146, 147, 148, 149, 150, 151, 152, 153, 154, 155, 156, 157, 158, 159, 171, 172, 173, 174, 175, 176, 163, 164, 165, 166, 167, 168, 169, 170] (by decide +kernel) (by decide +kernel)
set_option maxRecDepth 20000 in
theorem gX3_addAll_X3_foresee : GoodIn wsX3_addAll (wsV RX3 82 RX3 yX3_foresee wsX3_foresee) := goodIn_app (goodIn_of _ (by decide +kernel)) ggX3_addAll_X3_foresee
theorem dX3_addAll_0 : decode cX3_addAll 0 = .ok (.aload_n 0, 1) := by decide +kernel
theorem dX3_addAll_1 : decode cX3_addAll 1 = .ok (.getfield 47, 3) := by decide +kernel
theorem dX3_addAll_4 : decode cX3_addAll 4 = .ok (.invokevirtual 174, 3) := by decide +kernel
theorem dX3_addAll_7 : decode cX3_addAll 7 = .ok (.ifCond .ne 13, 3) := by decide +kernel
theorem dX3_addAll_10 : decode cX3_addAll 10 = .ok (.new 59, 3) := by decide +kernel
theorem dX3_addAll_13 : decode cX3_addAll 13 = .ok (.dup, 1) := by decide +kernel
theorem dX3_addAll_14 : decode cX3_addAll 14 = .ok (.ldc 178, 2) := by decide +kernel
theorem dX3_addAll_16 : decode cX3_addAll 16 = .ok (.invokespecial 63, 3) := by decide +kernel
theorem dX3_addAll_19 : decode cX3_addAll 19 = .ok (.athrow, 1) := by decide +kernel
theorem dX3_addAll_20 : decode cX3_addAll 20 = .ok (.aload_n 0, 1) := by decide +kernel
theorem dX3_addAll_21 : decode cX3_addAll 21 = .ok (.getfield 47, 3) := by decide +kernel
theorem dX3_addAll_24 : decode cX3_addAll 24 = .ok (.invokevirtual 180, 3) := by decide +kernel
theorem dX3_addAll_27 : decode cX3_addAll 27 = .ok (.istore_n 1, 1) := by decide +kernel
theorem dX3_addAll_28 : decode cX3_addAll 28 = .ok (.iload_n 1, 1) := by decide +kernel
theorem dX3_addAll_29 : decode cX3_addAll 29 = .ok (.bipush 16, 2) := by decide +kernel
theorem dX3_addAll_31 : decode cX3_addAll 31 = .ok (.aload_n 0, 1) := by decide +kernel
theorem dX3_addAll_32 : decode cX3_addAll 32 = .ok (.getfield 12, 3) := by decide +kernel
theorem dX3_addAll_35 : decode cX3_addAll 35 = .ok (.invokevirtual 183, 3) := by decide +kernel
theorem dX3_addAll_38 : decode cX3_addAll 38 = .ok (.isub, 1) := by decide +kernel
theorem dX3_addAll_39 : decode cX3_addAll 39 = .ok (.if_icmp .le 13, 3) := by decide +kernel
theorem dX3_addAll_42 : decode cX3_addAll 42 = .ok (.new 70, 3) := by decide +kernel
theorem dX3_addAll_45 : decode cX3_addAll 45 = .ok (.dup, 1) := by decide +kernel
theorem dX3_addAll_46 : decode cX3_addAll 46 = .ok (.ldc 186, 2) := by decide +kernel
theorem dX3_addAll_48 : decode cX3_addAll 48 = .ok (.invokespecial 74, 3) := by decide +kernel
theorem dX3_addAll_51 : decode cX3_addAll 51 = .ok (.athrow, 1) := by decide +kernel
theorem dX3_addAll_52 : decode cX3_addAll 52 = .ok (.aload_n 0, 1) := by decide +kernel
theorem dX3_addAll_53 : decode cX3_addAll 53 = .ok (.invokevirtual 75, 3) := by decide +kernel
theorem dX3_addAll_56 : decode cX3_addAll 56 = .ok (.aload_n 0, 1) := by decide +kernel
theorem dX3_addAll_57 : decode cX3_addAll 57 = .ok (.getfield 47, 3) := by decide +kernel
theorem dX3_addAll_60 : decode cX3_addAll 60 = .ok (.invokevirtual 188, 3) := by decide +kernel
theorem dX3_addAll_63 : decode cX3_addAll 63 = .ok (.iconst 0, 1) := by decide +kernel
theorem dX3_addAll_64 : decode cX3_addAll 64 = .ok (.istore_n 2, 1) := by decide +kernel
theorem dX3_addAll_65 : decode cX3_addAll 65 = .ok (.iload_n 2, 1) := by decide +kernel
theorem dX3_addAll_66 : decode cX3_addAll 66 = .ok (.iload_n 1, 1) := by decide +kernel
theorem dX3_addAll_67 : decode cX3_addAll 67 = .ok (.if_icmp .ge 50, 3) := by decide +kernel
theorem dX3_addAll_70 : decode cX3_addAll 70 = .ok (.aload_n 0, 1) := by decide +kernel
theorem dX3_addAll_71 : decode cX3_addAll 71 = .ok (.getfield 47, 3) := by decide +kernel
theorem dX3_addAll_74 : decode cX3_addAll 74 = .ok (.invokevirtual 191, 3) := by decide +kernel
theorem dX3_addAll_77 : decode cX3_addAll 77 = .ok (.istore_n 3, 1) := by decide +kernel
theorem dX3_addAll_78 : decode cX3_addAll 78 = .ok (.aload_n 0, 1) := by decide +kernel
theorem dX3_addAll_79 : decode cX3_addAll 79 = .ok (.getfield 47, 3) := by decide +kernel
theorem dX3_addAll_82 : decode cX3_addAll 82 = .ok (.invokevirtual 191, 3) := by decide +kernel
theorem dX3_addAll_85 : decode cX3_addAll 85 = .ok (.istore 4, 2) := by decide +kernel
theorem dX3_addAll_87 : decode cX3_addAll 87 = .ok (.aload_n 0, 1) := by decide +kernel
theorem dX3_addAll_88 : decode cX3_addAll 88 = .ok (.getfield 47, 3) := by decide +kernel
theorem dX3_addAll_91 : decode cX3_addAll 91 = .ok (.invokevirtual 194, 3) := by decide +kernel
theorem dX3_addAll_94 : decode cX3_addAll 94 = .ok (.aload_n 0, 1) := by decide +kernel
theorem dX3_addAll_95 : decode cX3_addAll 95 = .ok (.getfield 12, 3) := by decide +kernel
theorem dX3_addAll_98 : decode cX3_addAll 98 = .ok (.aload_n 0, 1) := by decide +kernel
theorem dX3_addAll_99 : decode cX3_addAll 99 = .ok (.getfield 12, 3) := by decide +kernel
theorem dX3_addAll_102 : decode cX3_addAll 102 = .ok (.invokevirtual 66, 3) := by decide +kernel
theorem dX3_addAll_105 : decode cX3_addAll 105 = .ok (.iload_n 3, 1) := by decide +kernel
theorem dX3_addAll_106 : decode cX3_addAll 106 = .ok (.iload 4, 2) := by decide +kernel
theorem dX3_addAll_108 : decode cX3_addAll 108 = .ok (.invokevirtual 78, 3) := by decide +kernel
theorem dX3_addAll_111 : decode cX3_addAll 111 = .ok (.iinc 2 1, 3) := by decide +kernel
theorem dX3_addAll_114 : decode cX3_addAll 114 = .ok (.goto (-49), 3) := by decide +kernel
theorem dX3_addAll_117 : decode cX3_addAll 117 = .ok (.aload_n 0, 1) := by decide +kernel
theorem dX3_addAll_118 : decode cX3_addAll 118 = .ok (.getfield 47, 3) := by decide +kernel
theorem dX3_addAll_121 : decode cX3_addAll 121 = .ok (.iconst 0, 1) := by decide +kernel
theorem dX3_addAll_122 : decode cX3_addAll 122 = .ok (.putfield 164, 3) := by decide +kernel
theorem dX3_addAll_125 : decode cX3_addAll 125 = .ok (.aload_n 0, 1) := by decide +kernel
theorem dX3_addAll_126 : decode cX3_addAll 126 = .ok (.invokevirtual 82, 3) := by decide +kernel
theorem dX3_addAll_129 : decode cX3_addAll 129 = .ok (.aload_n 0, 1) := by decide +kernel
theorem dX3_addAll_130 : decode cX3_addAll 130 = .ok (.getfield 12, 3) := by decide +kernel
theorem dX3_addAll_133 : decode cX3_addAll 133 = .ok (.invokevirtual 183, 3) := by decide +kernel
theorem dX3_addAll_136 : decode cX3_addAll 136 = .ok (.ireturn, 1) := by decide +kernel
set_option maxRecDepth 20000 in
theorem ggX3_undo_X3_latestSaved : GoodIn wsX3_undo wsX3_latestSaved := goodIn_r _ [9, 10, 3, 11, 87, 88, 89, 90, 91, 92, 93, 94] (by decide +kernel) (by decide +kernel)
set_option maxRecDepth 20000 in
theorem gX3_undo_X3_latestSaved : GoodIn wsX3_undo (wsV RX3 199 RX3 yX3_latestSaved wsX3_latestSaved) := goodIn_app (goodIn_of _ (by decide +kernel)) ggX3_undo_X3_latestSaved
set_option maxRecDepth 20000 in
theorem ggX3_undo_X1_copyFrom : GoodIn wsX3_undo wsX1_copyFrom := goodIn_r _ [16, 17, 18, 19, 20, 21, 22, 23, 24, 95, 96, 97, 98, 99, 100, 101, 102] (by decide +kernel) (by decide +kernel)
set_option maxRecDepth 20000 in
theorem gX3_undo_X1_copyFrom : GoodIn wsX3_undo (wsV RX3 203 RX1 yX1_copyFrom wsX1_copyFrom) := goodIn_app (goodIn_of _ (by decide +kernel)) ggX3_undo_X1_copyFrom
set_option maxRecDepth 20000 in
theorem ggX3_undo_X3_foresee : GoodIn wsX3_undo wsX3_foresee := goodIn_r _ [28, 4, 29, 30, 31, 8, 32, 33, 34, 35, 36, 37, 38, 39, 40, 41, 42, 43, 44, 45, 15, 46, 47, 48, 49, 50, 17, 51, 52, 53, 54, 19, 55, 56, 57, 58, 59, 60, 61, 62, 18, 63, 64, 65, 66, 23, 67, 68, 69, 70, 71, 72, 73, 74, 75, 76, 77, 78, 79, 80, 81, 82, 83, 84, 85, 86, 87, 88, 89, 90, 91, 92, 93, 94, 103, 104, 105, 106, 107, 108, 95, 96, 97, 98, 99, 100, 101, 102] (by decide +kernel) (by decide +kernel)
set_option maxRecDepth 20000 in
theorem gX3_undo_X3_foresee : GoodIn wsX3_undo (wsV RX3 82 RX3 yX3_foresee wsX3_foresee) := goodIn_app (goodIn_of _ (by decide +kernel)) ggX3_undo_X3_foresee
theorem dX3_undo_0 : decode cX3_undo 0 = .ok (.aload_n 0, 1) := by decide +kernel
theorem dX3_undo_1 : decode cX3_undo 1 = .ok (.getfield 24, 3) := by decide +kernel
theorem dX3_undo_4 : decode cX3_undo 4 = .ok (.iconst 1, 1) := by decide +kernel
theorem dX3_undo_5 : decode cX3_undo 5 = .ok (.if_icmp .ge 13, 3) := by decide +kernel
theorem dX3_undo_8 : decode cX3_undo 8 = .ok (.new 70, 3) := by decide +kernel
theorem dX3_undo_11 : decode cX3_undo 11 = .ok (.dup, 1) := by decide +kernel
theorem dX3_undo_12 : decode cX3_undo 12 = .ok (.ldc 197, 2) := by decide +kernel
theorem dX3_undo_14 : decode cX3_undo 14 = .ok (.invokespecial 74, 3) := by decide +kernel
theorem dX3_undo_17 : decode cX3_undo 17 = .ok (.athrow, 1) := by decide +kernel
theorem dX3_undo_18 : decode cX3_undo 18 = .ok (.aload_n 0, 1) := by decide +kernel
theorem dX3_undo_19 : decode cX3_undo 19 = .ok (.invokevirtual 199, 3) := by decide +kernel
theorem dX3_undo_22 : decode cX3_undo 22 = .ok (.astore_n 1, 1) := by decide +kernel
theorem dX3_undo_23 : decode cX3_undo 23 = .ok (.aload_n 1, 1) := by decide +kernel
theorem dX3_undo_24 : decode cX3_undo 24 = .ok (.ifnull 11, 3) := by decide +kernel
theorem dX3_undo_27 : decode cX3_undo 27 = .ok (.aload_n 0, 1) := by decide +kernel
theorem dX3_undo_28 : decode cX3_undo 28 = .ok (.getfield 12, 3) := by decide +kernel
theorem dX3_undo_31 : decode cX3_undo 31 = .ok (.aload_n 1, 1) := by decide +kernel
theorem dX3_undo_32 : decode cX3_undo 32 = .ok (.invokevirtual 203, 3) := by decide +kernel
theorem dX3_undo_35 : decode cX3_undo 35 = .ok (.aload_n 0, 1) := by decide +kernel
theorem dX3_undo_36 : decode cX3_undo 36 = .ok (.dup, 1) := by decide +kernel
theorem dX3_undo_37 : decode cX3_undo 37 = .ok (.getfield 24, 3) := by decide +kernel
theorem dX3_undo_40 : decode cX3_undo 40 = .ok (.iconst 1, 1) := by decide +kernel
theorem dX3_undo_41 : decode cX3_undo 41 = .ok (.isub, 1) := by decide +kernel
theorem dX3_undo_42 : decode cX3_undo 42 = .ok (.putfield 24, 3) := by decide +kernel
theorem dX3_undo_45 : decode cX3_undo 45 = .ok (.aload_n 0, 1) := by decide +kernel
theorem dX3_undo_46 : decode cX3_undo 46 = .ok (.invokevirtual 82, 3) := by decide +kernel
theorem dX3_undo_49 : decode cX3_undo 49 = .ok (.aload_n 0, 1) := by decide +kernel
theorem dX3_undo_50 : decode cX3_undo 50 = .ok (.getfield 24, 3) := by decide +kernel
theorem dX3_undo_53 : decode cX3_undo 53 = .ok (.ireturn, 1) := by decide +kernel
set_option maxRecDepth 20000 in
theorem ggX3_mover_X1_has : GoodIn wsX3_mover wsX1_has := goodIn_r _ [12, 13, 95, 96, 97, 98, 99, 100, 101, 102] (by decide +kernel) (by decide +kernel)
set_option maxRecDepth 20000 in
theorem gX3_mover_X1_has : GoodIn wsX3_mover (wsV RX3 85 RX1 yX1_has wsX1_has) := goodIn_app (goodIn_of _ (by decide +kernel)) ggX3_mover_X1_has
set_option maxRecDepth 20000 in
theorem ggX3_mover_X1_valueOf : GoodIn wsX3_mover wsX1_valueOf := goodIn_r _ [17, 18, 95, 96, 97, 98, 99, 100, 101, 102] (by decide +kernel) (by decide +kernel)
set_option maxRecDepth 20000 in
theorem gX3_mover_X1_valueOf : GoodIn wsX3_mover (wsV RX3 93 RX1 yX1_valueOf wsX1_valueOf) := goodIn_app (goodIn_of _ (by decide +kernel)) ggX3_mover_X1_valueOf
set_option maxRecDepth 20000 in
theorem ggX3_mover_X1_speedOf : GoodIn wsX3_mover wsX1_speedOf := goodIn_r _ [22, 23, 95, 96, 97, 98, 99, 100, 101, 102] (by decide +kernel) (by decide +kernel)
set_option maxRecDepth 20000 in
theorem gX3_mover_X1_speedOf : GoodIn wsX3_mover (wsV RX3 103 RX1 yX1_speedOf wsX1_speedOf) := goodIn_app (goodIn_of _ (by decide +kernel)) ggX3_mover_X1_speedOf
set_option maxRecDepth 20000 in
theorem ggX3_mover_X1_rankOf : GoodIn wsX3_mover wsX1_rankOf := goodIn_r _ [27, 13, 28, 29, 30, 11, 31, 32, 20, 21, 22, 23, 33, 34, 35, 36, 37, 15, 16, 17, 18, 38, 39, 40, 41, 42, 95, 96, 97, 98, 99, 100, 101, 102] (by decide +kernel) (by decide +kernel)
set_option maxRecDepth 20000 in
theorem gX3_mover_X1_rankOf : GoodIn wsX3_mover (wsV RX3 207 RX1 yX1_rankOf wsX1_rankOf) := goodIn_app (goodIn_of _ (by decide +kernel)) ggX3_mover_X1_rankOf
set_option maxRecDepth 20000 in
theorem ggX3_mover_X3_winsOf : GoodIn wsX3_mover wsX3_winsOf := goodIn_r _ [47, 48, 49, 50, 46, 51, 52, 53, 54, 55, 6, 56, 57, 58, 59, 60, 61, 62, 63, 64, 65, 66, 67, 87, 88, 89, 90, 91, 92, 93, 94, 103, 104, 105, 106, 107, 108] (by decide +kernel) (by decide +kernel)
set_option maxRecDepth 20000 in
theorem gX3_mover_X3_winsOf : GoodIn wsX3_mover (wsV RX3 210 RX3 yX3_winsOf wsX3_winsOf) := goodIn_app (goodIn_of _ (by decide +kernel)) ggX3_mover_X3_winsOf
set_option maxRecDepth 20000 in
theorem ggX3_mover_X0_rowOf : GoodIn wsX3_mover wsX0_rowOf := goodIn_r _ [71, 67, 62, 103, 104, 105, 106, 107, 108] (by decide +kernel) (by decide +kernel)
set_option maxRecDepth 20000 in
theorem gX3_mover_X0_rowOf : GoodIn wsX3_mover (wsV RX3 213 RX0 yX0_rowOf wsX0_rowOf) := goodIn_app (goodIn_of _ (by decide +kernel)) ggX3_mover_X0_rowOf
set_option maxRecDepth 20000 in
theorem ggX3_mover_X0_numerator : GoodIn wsX3_mover wsX0_numerator := goodIn_r _ [75, 76, 77, 63, 64, 65, 60, 66, 67, 103, 104, 105, 106, 107, 108] (by decide +kernel) (by decide +kernel)
set_option maxRecDepth 20000 in
theorem gX3_mover_X0_numerator : GoodIn wsX3_mover (wsV RX3 216 RX0 yX0_numerator wsX0_numerator) := goodIn_app (goodIn_of _ (by decide +kernel)) ggX3_mover_X0_numerator
set_option maxRecDepth 20000 in
theorem ggX3_mover_X0_denominator : GoodIn wsX3_mover wsX0_denominator := goodIn_r _ [81, 76, 63, 64, 65, 60, 66, 67, 103, 104, 105, 106, 107, 108] (by decide +kernel) (by decide +kernel)
set_option maxRecDepth 20000 in
theorem gX3_mover_X0_denominator : GoodIn wsX3_mover (wsV RX3 220 RX0 yX0_denominator wsX0_denominator) := goodIn_app (goodIn_of _ (by decide +kernel)) ggX3_mover_X0_denominator
set_option maxRecDepth 20000 in
theorem ggX3_mover_X1_addedAtOf : GoodIn wsX3_mover wsX1_addedAtOf := goodIn_r _ [85, 86, 95, 96, 97, 98, 99, 100, 101, 102] (by decide +kernel) (by decide +kernel)
set_option maxRecDepth 20000 in
theorem gX3_mover_X1_addedAtOf : GoodIn wsX3_mover (wsV RX3 223 RX1 yX1_addedAtOf wsX1_addedAtOf) := goodIn_app (goodIn_of _ (by decide +kernel)) ggX3_mover_X1_addedAtOf
theorem dX3_mover_0 : decode cX3_mover 0 = .ok (.aload_n 0, 1) := by decide +kernel
theorem dX3_mover_1 : decode cX3_mover 1 = .ok (.getfield 12, 3) := by decide +kernel
theorem dX3_mover_4 : decode cX3_mover 4 = .ok (.iload_n 1, 1) := by decide +kernel
theorem dX3_mover_5 : decode cX3_mover 5 = .ok (.invokevirtual 85, 3) := by decide +kernel
theorem dX3_mover_8 : decode cX3_mover 8 = .ok (.ifCond .ne 13, 3) := by decide +kernel
theorem dX3_mover_11 : decode cX3_mover 11 = .ok (.new 88, 3) := by decide +kernel
theorem dX3_mover_14 : decode cX3_mover 14 = .ok (.dup, 1) := by decide +kernel
theorem dX3_mover_15 : decode cX3_mover 15 = .ok (.ldc 90, 2) := by decide +kernel
theorem dX3_mover_17 : decode cX3_mover 17 = .ok (.invokespecial 92, 3) := by decide +kernel
theorem dX3_mover_20 : decode cX3_mover 20 = .ok (.athrow, 1) := by decide +kernel
theorem dX3_mover_21 : decode cX3_mover 21 = .ok (.iload_n 2, 1) := by decide +kernel
theorem dX3_mover_22 : decode cX3_mover 22 = .ok (.tableswitch 123 0 6 #[42, 51, 60, 69, 75, 98, 114], 42) := by decide +kernel
theorem dX3_mover_64 : decode cX3_mover 64 = .ok (.aload_n 0, 1) := by decide +kernel
theorem dX3_mover_65 : decode cX3_mover 65 = .ok (.getfield 12, 3) := by decide +kernel
theorem dX3_mover_68 : decode cX3_mover 68 = .ok (.iload_n 1, 1) := by decide +kernel
theorem dX3_mover_69 : decode cX3_mover 69 = .ok (.invokevirtual 93, 3) := by decide +kernel
theorem dX3_mover_72 : decode cX3_mover 72 = .ok (.ireturn, 1) := by decide +kernel
theorem dX3_mover_73 : decode cX3_mover 73 = .ok (.aload_n 0, 1) := by decide +kernel
theorem dX3_mover_74 : decode cX3_mover 74 = .ok (.getfield 12, 3) := by decide +kernel
theorem dX3_mover_77 : decode cX3_mover 77 = .ok (.iload_n 1, 1) := by decide +kernel
theorem dX3_mover_78 : decode cX3_mover 78 = .ok (.invokevirtual 103, 3) := by decide +kernel
theorem dX3_mover_81 : decode cX3_mover 81 = .ok (.ireturn, 1) := by decide +kernel
theorem dX3_mover_82 : decode cX3_mover 82 = .ok (.aload_n 0, 1) := by decide +kernel
theorem dX3_mover_83 : decode cX3_mover 83 = .ok (.getfield 12, 3) := by decide +kernel
theorem dX3_mover_86 : decode cX3_mover 86 = .ok (.iload_n 1, 1) := by decide +kernel
theorem dX3_mover_87 : decode cX3_mover 87 = .ok (.invokevirtual 207, 3) := by decide +kernel
theorem dX3_mover_90 : decode cX3_mover 90 = .ok (.ireturn, 1) := by decide +kernel
theorem dX3_mover_91 : decode cX3_mover 91 = .ok (.aload_n 0, 1) := by decide +kernel
theorem dX3_mover_92 : decode cX3_mover 92 = .ok (.iload_n 1, 1) := by decide +kernel
theorem dX3_mover_93 : decode cX3_mover 93 = .ok (.invokevirtual 210, 3) := by decide +kernel
theorem dX3_mover_96 : decode cX3_mover 96 = .ok (.ireturn, 1) := by decide +kernel
theorem dX3_mover_97 : decode cX3_mover 97 = .ok (.aload_n 0, 1) := by decide +kernel
theorem dX3_mover_98 : decode cX3_mover 98 = .ok (.getfield 32, 3) := by decide +kernel
theorem dX3_mover_101 : decode cX3_mover 101 = .ok (.aload_n 0, 1) := by decide +kernel
theorem dX3_mover_102 : decode cX3_mover 102 = .ok (.getfield 32, 3) := by decide +kernel
theorem dX3_mover_105 : decode cX3_mover 105 = .ok (.iload_n 1, 1) := by decide +kernel
theorem dX3_mover_106 : decode cX3_mover 106 = .ok (.invokevirtual 213, 3) := by decide +kernel
theorem dX3_mover_109 : decode cX3_mover 109 = .ok (.aload_n 0, 1) := by decide +kernel
theorem dX3_mover_110 : decode cX3_mover 110 = .ok (.getfield 12, 3) := by decide +kernel
theorem dX3_mover_113 : decode cX3_mover 113 = .ok (.getfield 129, 3) := by decide +kernel
theorem dX3_mover_116 : decode cX3_mover 116 = .ok (.invokevirtual 216, 3) := by decide +kernel
theorem dX3_mover_119 : decode cX3_mover 119 = .ok (.ireturn, 1) := by decide +kernel
theorem dX3_mover_120 : decode cX3_mover 120 = .ok (.aload_n 0, 1) := by decide +kernel
theorem dX3_mover_121 : decode cX3_mover 121 = .ok (.getfield 32, 3) := by decide +kernel
theorem dX3_mover_124 : decode cX3_mover 124 = .ok (.aload_n 0, 1) := by decide +kernel
theorem dX3_mover_125 : decode cX3_mover 125 = .ok (.getfield 32, 3) := by decide +kernel
theorem dX3_mover_128 : decode cX3_mover 128 = .ok (.iload_n 1, 1) := by decide +kernel
theorem dX3_mover_129 : decode cX3_mover 129 = .ok (.invokevirtual 213, 3) := by decide +kernel
theorem dX3_mover_132 : decode cX3_mover 132 = .ok (.invokevirtual 220, 3) := by decide +kernel
theorem dX3_mover_135 : decode cX3_mover 135 = .ok (.ireturn, 1) := by decide +kernel
theorem dX3_mover_136 : decode cX3_mover 136 = .ok (.aload_n 0, 1) := by decide +kernel
theorem dX3_mover_137 : decode cX3_mover 137 = .ok (.getfield 12, 3) := by decide +kernel
theorem dX3_mover_140 : decode cX3_mover 140 = .ok (.iload_n 1, 1) := by decide +kernel
theorem dX3_mover_141 : decode cX3_mover 141 = .ok (.invokevirtual 223, 3) := by decide +kernel
theorem dX3_mover_144 : decode cX3_mover 144 = .ok (.ireturn, 1) := by decide +kernel
theorem dX3_mover_145 : decode cX3_mover 145 = .ok (.new 59, 3) := by decide +kernel
theorem dX3_mover_148 : decode cX3_mover 148 = .ok (.dup, 1) := by decide +kernel
theorem dX3_mover_149 : decode cX3_mover 149 = .ok (.ldc 226, 2) := by decide +kernel
theorem dX3_mover_151 : decode cX3_mover 151 = .ok (.invokespecial 63, 3) := by decide +kernel
theorem dX3_mover_154 : decode cX3_mover 154 = .ok (.athrow, 1) := by decide +kernel
set_option maxRecDepth 20000 in
theorem ggX3_contest_X3_isWithin : GoodIn wsX3_contest wsX3_isWithin := goodIn_r _ [10] (by decide +kernel) (by decide +kernel)
set_option maxRecDepth 20000 in
theorem gX3_contest_X3_isWithin : GoodIn wsX3_contest (va_wsS RX3 51 yX3_isWithin wsX3_isWithin) := goodIn_app (goodIn_of _ (by decide +kernel)) ggX3_contest_X3_isWithin
set_option maxRecDepth 20000 in
theorem ggX3_contest_X3_courseOf : GoodIn wsX3_contest wsX3_courseOf := goodIn_r _ [14, 15, 16, 61, 62, 63, 64, 65, 66, 67, 68] (by decide +kernel) (by decide +kernel)
set_option maxRecDepth 20000 in
theorem gX3_contest_X3_courseOf : GoodIn wsX3_contest (wsV RX3 142 RX3 yX3_courseOf wsX3_courseOf) := goodIn_app (goodIn_of _ (by decide +kernel)) ggX3_contest_X3_courseOf
set_option maxRecDepth 20000 in
theorem ggX3_contest_X0_winnerIn : GoodIn wsX3_contest wsX0_winnerIn := goodIn_r _ [21, 22, 23, 24, 25, 20, 26, 27, 77, 78, 79, 80, 81, 82] (by decide +kernel) (by decide +kernel)
set_option maxRecDepth 20000 in
theorem gX3_contest_X0_winnerIn : GoodIn wsX3_contest (wsV RX3 230 RX0 yX0_winnerIn wsX0_winnerIn) := goodIn_app (goodIn_of _ (by decide +kernel)) ggX3_contest_X0_winnerIn
set_option maxRecDepth 20000 in
theorem ggX3_contest_X3_loserOf : GoodIn wsX3_contest wsX3_loserOf := goodIn_r _ [31, 32, 33, 34, 9, 35, 5, 36, 37, 38, 39, 11, 12, 13, 14, 15, 16, 17, 18, 19, 20, 21, 22, 23, 24, 25, 26, 27, 40, 41, 42, 43, 44, 45, 61, 62, 63, 64, 65, 66, 67, 68, 77, 78, 79, 80, 81, 82, 69, 70, 71, 72, 73, 74, 75, 76] (by decide +kernel) (by decide +kernel)
set_option maxRecDepth 20000 in
theorem gX3_contest_X3_loserOf : GoodIn wsX3_contest (wsV RX3 233 RX3 yX3_loserOf wsX3_loserOf) := goodIn_app (goodIn_of _ (by decide +kernel)) ggX3_contest_X3_loserOf
set_option maxRecDepth 20000 in
theorem ggX3_contest_X0_numerator : GoodIn wsX3_contest wsX0_numerator := goodIn_r _ [49, 50, 51, 23, 24, 25, 20, 26, 27, 77, 78, 79, 80, 81, 82] (by decide +kernel) (by decide +kernel)
set_option maxRecDepth 20000 in
theorem gX3_contest_X0_numerator : GoodIn wsX3_contest (wsV RX3 216 RX0 yX0_numerator wsX0_numerator) := goodIn_app (goodIn_of _ (by decide +kernel)) ggX3_contest_X0_numerator
set_option maxRecDepth 20000 in
theorem ggX3_contest_X0_denominator : GoodIn wsX3_contest wsX0_denominator := goodIn_r _ [55, 50, 23, 24, 25, 20, 26, 27, 77, 78, 79, 80, 81, 82] (by decide +kernel) (by decide +kernel)
set_option maxRecDepth 20000 in
theorem gX3_contest_X0_denominator : GoodIn wsX3_contest (wsV RX3 220 RX0 yX0_denominator wsX0_denominator) := goodIn_app (goodIn_of _ (by decide +kernel)) ggX3_contest_X0_denominator
set_option maxRecDepth 20000 in
theorem ggX3_contest_X1_turnedOf : GoodIn wsX3_contest wsX1_turnedOf := goodIn_r _ [59, 60, 8, 9, 10, 69, 70, 71, 72, 73, 74, 75, 76] (by decide +kernel) (by decide +kernel)
set_option maxRecDepth 20000 in
theorem gX3_contest_X1_turnedOf : GoodIn wsX3_contest (wsV RX3 236 RX1 yX1_turnedOf wsX1_turnedOf) := goodIn_app (goodIn_of _ (by decide +kernel)) ggX3_contest_X1_turnedOf
theorem dX3_contest_0 : decode cX3_contest 0 = .ok (.iload_n 1, 1) := by decide +kernel
theorem dX3_contest_1 : decode cX3_contest 1 = .ok (.iconst 1, 1) := by decide +kernel
theorem dX3_contest_2 : decode cX3_contest 2 = .ok (.bipush 15, 2) := by decide +kernel
theorem dX3_contest_4 : decode cX3_contest 4 = .ok (.invokestatic 51, 3) := by decide +kernel
theorem dX3_contest_7 : decode cX3_contest 7 = .ok (.ifCond .ne 13, 3) := by decide +kernel
theorem dX3_contest_10 : decode cX3_contest 10 = .ok (.new 88, 3) := by decide +kernel
theorem dX3_contest_13 : decode cX3_contest 13 = .ok (.dup, 1) := by decide +kernel
theorem dX3_contest_14 : decode cX3_contest 14 = .ok (.ldc 228, 2) := by decide +kernel
theorem dX3_contest_16 : decode cX3_contest 16 = .ok (.invokespecial 92, 3) := by decide +kernel
theorem dX3_contest_19 : decode cX3_contest 19 = .ok (.athrow, 1) := by decide +kernel
theorem dX3_contest_20 : decode cX3_contest 20 = .ok (.aload_n 0, 1) := by decide +kernel
theorem dX3_contest_21 : decode cX3_contest 21 = .ok (.iload_n 1, 1) := by decide +kernel
theorem dX3_contest_22 : decode cX3_contest 22 = .ok (.invokevirtual 142, 3) := by decide +kernel
theorem dX3_contest_25 : decode cX3_contest 25 = .ok (.astore_n 3, 1) := by decide +kernel
theorem dX3_contest_26 : decode cX3_contest 26 = .ok (.iload_n 2, 1) := by decide +kernel
theorem dX3_contest_27 : decode cX3_contest 27 = .ok (.tableswitch 83 0 5 #[37, 43, 49, 62, 68, 74], 37) := by decide +kernel
theorem dX3_contest_64 : decode cX3_contest 64 = .ok (.aload_n 3, 1) := by decide +kernel
theorem dX3_contest_65 : decode cX3_contest 65 = .ok (.iconst 0, 1) := by decide +kernel
theorem dX3_contest_66 : decode cX3_contest 66 = .ok (.invokevirtual 230, 3) := by decide +kernel
theorem dX3_contest_69 : decode cX3_contest 69 = .ok (.ireturn, 1) := by decide +kernel
theorem dX3_contest_70 : decode cX3_contest 70 = .ok (.aload_n 0, 1) := by decide +kernel
theorem dX3_contest_71 : decode cX3_contest 71 = .ok (.iload_n 1, 1) := by decide +kernel
theorem dX3_contest_72 : decode cX3_contest 72 = .ok (.invokevirtual 233, 3) := by decide +kernel
theorem dX3_contest_75 : decode cX3_contest 75 = .ok (.ireturn, 1) := by decide +kernel
theorem dX3_contest_76 : decode cX3_contest 76 = .ok (.aload_n 3, 1) := by decide +kernel
theorem dX3_contest_77 : decode cX3_contest 77 = .ok (.iconst 1, 1) := by decide +kernel
theorem dX3_contest_78 : decode cX3_contest 78 = .ok (.aload_n 0, 1) := by decide +kernel
theorem dX3_contest_79 : decode cX3_contest 79 = .ok (.getfield 12, 3) := by decide +kernel
theorem dX3_contest_82 : decode cX3_contest 82 = .ok (.getfield 129, 3) := by decide +kernel
theorem dX3_contest_85 : decode cX3_contest 85 = .ok (.invokevirtual 216, 3) := by decide +kernel
theorem dX3_contest_88 : decode cX3_contest 88 = .ok (.ireturn, 1) := by decide +kernel
theorem dX3_contest_89 : decode cX3_contest 89 = .ok (.aload_n 3, 1) := by decide +kernel
theorem dX3_contest_90 : decode cX3_contest 90 = .ok (.iconst 1, 1) := by decide +kernel
theorem dX3_contest_91 : decode cX3_contest 91 = .ok (.invokevirtual 220, 3) := by decide +kernel
theorem dX3_contest_94 : decode cX3_contest 94 = .ok (.ireturn, 1) := by decide +kernel
theorem dX3_contest_95 : decode cX3_contest 95 = .ok (.aload_n 3, 1) := by decide +kernel
theorem dX3_contest_96 : decode cX3_contest 96 = .ok (.iconst 1, 1) := by decide +kernel
theorem dX3_contest_97 : decode cX3_contest 97 = .ok (.invokevirtual 230, 3) := by decide +kernel
theorem dX3_contest_100 : decode cX3_contest 100 = .ok (.ireturn, 1) := by decide +kernel
theorem dX3_contest_101 : decode cX3_contest 101 = .ok (.aload_n 0, 1) := by decide +kernel
theorem dX3_contest_102 : decode cX3_contest 102 = .ok (.getfield 12, 3) := by decide +kernel
theorem dX3_contest_105 : decode cX3_contest 105 = .ok (.iload_n 1, 1) := by decide +kernel
theorem dX3_contest_106 : decode cX3_contest 106 = .ok (.invokevirtual 236, 3) := by decide +kernel
theorem dX3_contest_109 : decode cX3_contest 109 = .ok (.ireturn, 1) := by decide +kernel
theorem dX3_contest_110 : decode cX3_contest 110 = .ok (.new 59, 3) := by decide +kernel
theorem dX3_contest_113 : decode cX3_contest 113 = .ok (.dup, 1) := by decide +kernel
theorem dX3_contest_114 : decode cX3_contest 114 = .ok (.ldc 226, 2) := by decide +kernel
theorem dX3_contest_116 : decode cX3_contest 116 = .ok (.invokespecial 63, 3) := by decide +kernel
theorem dX3_contest_119 : decode cX3_contest 119 = .ok (.athrow, 1) := by decide +kernel
set_option maxRecDepth 20000 in
theorem ggX3_nextTurn_X3_firstToTurn : GoodIn wsX3_nextTurn wsX3_firstToTurn := goodIn_r _ [9, 10, 11, 12, 13, 8, 14, 15, 16, 17, 18, 19, 20, 21, 22, 23, 24, 25, 26, 27, 28, 29, 30, 31, 32, 33, 34, 35, 36, 59, 60, 61, 62, 63, 64, 43, 44, 45, 46, 47, 48, 49, 50] (by decide +kernel) (by decide +kernel)
set_option maxRecDepth 20000 in
theorem gX3_nextTurn_X3_firstToTurn : GoodIn wsX3_nextTurn (wsV RX3 137 RX3 yX3_firstToTurn wsX3_firstToTurn) := goodIn_app (goodIn_of _ (by decide +kernel)) ggX3_nextTurn_X3_firstToTurn
set_option maxRecDepth 20000 in
theorem ggX3_nextTurn_X3_courseOf : GoodIn wsX3_nextTurn wsX3_courseOf := goodIn_r _ [14, 15, 16, 43, 44, 45, 46, 47, 48, 49, 50] (by decide +kernel) (by decide +kernel)
set_option maxRecDepth 20000 in
theorem gX3_nextTurn_X3_courseOf : GoodIn wsX3_nextTurn (wsV RX3 142 RX3 yX3_courseOf wsX3_courseOf) := goodIn_app (goodIn_of _ (by decide +kernel)) ggX3_nextTurn_X3_courseOf
set_option maxRecDepth 20000 in
theorem ggX3_nextTurn_X0_numerator : GoodIn wsX3_nextTurn wsX0_numerator := goodIn_r _ [25, 26, 27, 28, 29, 30, 20, 31, 32, 59, 60, 61, 62, 63, 64] (by decide +kernel) (by decide +kernel)
set_option maxRecDepth 20000 in
theorem gX3_nextTurn_X0_numerator : GoodIn wsX3_nextTurn (wsV RX3 216 RX0 yX0_numerator wsX0_numerator) := goodIn_app (goodIn_of _ (by decide +kernel)) ggX3_nextTurn_X0_numerator
set_option maxRecDepth 20000 in
theorem ggX3_nextTurn_X0_denominator : GoodIn wsX3_nextTurn wsX0_denominator := goodIn_r _ [36, 26, 28, 29, 30, 20, 31, 32, 59, 60, 61, 62, 63, 64] (by decide +kernel) (by decide +kernel)
set_option maxRecDepth 20000 in
theorem gX3_nextTurn_X0_denominator : GoodIn wsX3_nextTurn (wsV RX3 220 RX0 yX0_denominator wsX0_denominator) := goodIn_app (goodIn_of _ (by decide +kernel)) ggX3_nextTurn_X0_denominator
set_option maxRecDepth 20000 in
theorem ggX3_nextTurn_X3_turningWith : GoodIn wsX3_nextTurn wsX3_turningWith := goodIn_r _ [42, 10, 11, 12, 13, 8, 14, 15, 16, 17, 18, 19, 20, 21, 22, 23, 24, 25, 26, 27, 28, 29, 30, 31, 32, 33, 34, 35, 36, 59, 60, 61, 62, 63, 64, 43, 44, 45, 46, 47, 48, 49, 50] (by decide +kernel) (by decide +kernel)
set_option maxRecDepth 20000 in
theorem gX3_nextTurn_X3_turningWith : GoodIn wsX3_nextTurn (wsV RX3 239 RX3 yX3_turningWith wsX3_turningWith) := goodIn_app (goodIn_of _ (by decide +kernel)) ggX3_nextTurn_X3_turningWith
theorem dX3_nextTurn_0 : decode cX3_nextTurn 0 = .ok (.aload_n 0, 1) := by decide +kernel
theorem dX3_nextTurn_1 : decode cX3_nextTurn 1 = .ok (.invokevirtual 137, 3) := by decide +kernel
theorem dX3_nextTurn_4 : decode cX3_nextTurn 4 = .ok (.istore_n 2, 1) := by decide +kernel
theorem dX3_nextTurn_5 : decode cX3_nextTurn 5 = .ok (.iload_n 1, 1) := by decide +kernel
theorem dX3_nextTurn_6 : decode cX3_nextTurn 6 = .ok (.tableswitch 92 0 3 #[30, 56, 75, 90], 30) := by decide +kernel
theorem dX3_nextTurn_36 : decode cX3_nextTurn 36 = .ok (.iload_n 2, 1) := by decide +kernel
theorem dX3_nextTurn_37 : decode cX3_nextTurn 37 = .ok (.iconst (-1), 1) := by decide +kernel
theorem dX3_nextTurn_38 : decode cX3_nextTurn 38 = .ok (.if_icmp .ne 7, 3) := by decide +kernel
theorem dX3_nextTurn_41 : decode cX3_nextTurn 41 = .ok (.iconst 0, 1) := by decide +kernel
theorem dX3_nextTurn_42 : decode cX3_nextTurn 42 = .ok (.goto 19, 3) := by decide +kernel
theorem dX3_nextTurn_45 : decode cX3_nextTurn 45 = .ok (.aload_n 0, 1) := by decide +kernel
theorem dX3_nextTurn_46 : decode cX3_nextTurn 46 = .ok (.iload_n 2, 1) := by decide +kernel
theorem dX3_nextTurn_47 : decode cX3_nextTurn 47 = .ok (.invokevirtual 142, 3) := by decide +kernel
theorem dX3_nextTurn_50 : decode cX3_nextTurn 50 = .ok (.iconst 1, 1) := by decide +kernel
theorem dX3_nextTurn_51 : decode cX3_nextTurn 51 = .ok (.aload_n 0, 1) := by decide +kernel
theorem dX3_nextTurn_52 : decode cX3_nextTurn 52 = .ok (.getfield 12, 3) := by decide +kernel
theorem dX3_nextTurn_55 : decode cX3_nextTurn 55 = .ok (.getfield 129, 3) := by decide +kernel
theorem dX3_nextTurn_58 : decode cX3_nextTurn 58 = .ok (.invokevirtual 216, 3) := by decide +kernel
theorem dX3_nextTurn_61 : decode cX3_nextTurn 61 = .ok (.ireturn, 1) := by decide +kernel
theorem dX3_nextTurn_62 : decode cX3_nextTurn 62 = .ok (.iload_n 2, 1) := by decide +kernel
theorem dX3_nextTurn_63 : decode cX3_nextTurn 63 = .ok (.iconst (-1), 1) := by decide +kernel
theorem dX3_nextTurn_64 : decode cX3_nextTurn 64 = .ok (.if_icmp .ne 7, 3) := by decide +kernel
theorem dX3_nextTurn_67 : decode cX3_nextTurn 67 = .ok (.iconst 0, 1) := by decide +kernel
theorem dX3_nextTurn_68 : decode cX3_nextTurn 68 = .ok (.goto 12, 3) := by decide +kernel
theorem dX3_nextTurn_71 : decode cX3_nextTurn 71 = .ok (.aload_n 0, 1) := by decide +kernel
theorem dX3_nextTurn_72 : decode cX3_nextTurn 72 = .ok (.iload_n 2, 1) := by decide +kernel
theorem dX3_nextTurn_73 : decode cX3_nextTurn 73 = .ok (.invokevirtual 142, 3) := by decide +kernel
theorem dX3_nextTurn_76 : decode cX3_nextTurn 76 = .ok (.iconst 1, 1) := by decide +kernel
theorem dX3_nextTurn_77 : decode cX3_nextTurn 77 = .ok (.invokevirtual 220, 3) := by decide +kernel
theorem dX3_nextTurn_80 : decode cX3_nextTurn 80 = .ok (.ireturn, 1) := by decide +kernel
theorem dX3_nextTurn_81 : decode cX3_nextTurn 81 = .ok (.iload_n 2, 1) := by decide +kernel
theorem dX3_nextTurn_82 : decode cX3_nextTurn 82 = .ok (.iconst (-1), 1) := by decide +kernel
theorem dX3_nextTurn_83 : decode cX3_nextTurn 83 = .ok (.if_icmp .ne 7, 3) := by decide +kernel
theorem dX3_nextTurn_86 : decode cX3_nextTurn 86 = .ok (.iconst 0, 1) := by decide +kernel
theorem dX3_nextTurn_87 : decode cX3_nextTurn 87 = .ok (.goto 8, 3) := by decide +kernel
theorem dX3_nextTurn_90 : decode cX3_nextTurn 90 = .ok (.aload_n 0, 1) := by decide +kernel
theorem dX3_nextTurn_91 : decode cX3_nextTurn 91 = .ok (.iload_n 2, 1) := by decide +kernel
theorem dX3_nextTurn_92 : decode cX3_nextTurn 92 = .ok (.invokevirtual 239, 3) := by decide +kernel
theorem dX3_nextTurn_95 : decode cX3_nextTurn 95 = .ok (.ireturn, 1) := by decide +kernel
theorem dX3_nextTurn_96 : decode cX3_nextTurn 96 = .ok (.iload_n 2, 1) := by decide +kernel
theorem dX3_nextTurn_97 : decode cX3_nextTurn 97 = .ok (.ireturn, 1) := by decide +kernel
theorem dX3_nextTurn_98 : decode cX3_nextTurn 98 = .ok (.new 59, 3) := by decide +kernel
theorem dX3_nextTurn_101 : decode cX3_nextTurn 101 = .ok (.dup, 1) := by decide +kernel
theorem dX3_nextTurn_102 : decode cX3_nextTurn 102 = .ok (.ldc 226, 2) := by decide +kernel
theorem dX3_nextTurn_104 : decode cX3_nextTurn 104 = .ok (.invokespecial 63, 3) := by decide +kernel
theorem dX3_nextTurn_107 : decode cX3_nextTurn 107 = .ok (.athrow, 1) := by decide +kernel
set_option maxRecDepth 20000 in
theorem ggX3_span_X3_isWithin : GoodIn wsX3_span wsX3_isWithin := goodIn_r _ [10] (by decide +kernel) (by decide +kernel)
set_option maxRecDepth 20000 in
theorem gX3_span_X3_isWithin : GoodIn wsX3_span (va_wsS RX3 51 yX3_isWithin wsX3_isWithin) := goodIn_app (goodIn_of _ (by decide +kernel)) ggX3_span_X3_isWithin
set_option maxRecDepth 20000 in
theorem ggX3_span_X0_winnerIn : GoodIn wsX3_span wsX0_winnerIn := goodIn_r _ [15, 16, 17, 18, 19, 14, 20, 21, 40, 41, 42, 43, 44, 45] (by decide +kernel) (by decide +kernel)
set_option maxRecDepth 20000 in
theorem gX3_span_X0_winnerIn : GoodIn wsX3_span (wsV RX3 230 RX0 yX0_winnerIn wsX0_winnerIn) := goodIn_app (goodIn_of _ (by decide +kernel)) ggX3_span_X0_winnerIn
set_option maxRecDepth 20000 in
theorem ggX3_span_X0_numerator : GoodIn wsX3_span wsX0_numerator := goodIn_r _ [25, 26, 27, 17, 18, 19, 14, 20, 21, 40, 41, 42, 43, 44, 45] (by decide +kernel) (by decide +kernel)
set_option maxRecDepth 20000 in
theorem gX3_span_X0_numerator : GoodIn wsX3_span (wsV RX3 216 RX0 yX0_numerator wsX0_numerator) := goodIn_app (goodIn_of _ (by decide +kernel)) ggX3_span_X0_numerator
set_option maxRecDepth 20000 in
theorem ggX3_span_X0_denominator : GoodIn wsX3_span wsX0_denominator := goodIn_r _ [31, 26, 17, 18, 19, 14, 20, 21, 40, 41, 42, 43, 44, 45] (by decide +kernel) (by decide +kernel)
set_option maxRecDepth 20000 in
theorem gX3_span_X0_denominator : GoodIn wsX3_span (wsV RX3 220 RX0 yX0_denominator wsX0_denominator) := goodIn_app (goodIn_of _ (by decide +kernel)) ggX3_span_X0_denominator
theorem dX3_span_0 : decode cX3_span 0 = .ok (.iload_n 1, 1) := by decide +kernel
theorem dX3_span_1 : decode cX3_span 1 = .ok (.ifCond .lt 12, 3) := by decide +kernel
theorem dX3_span_4 : decode cX3_span 4 = .ok (.iload_n 2, 1) := by decide +kernel
theorem dX3_span_5 : decode cX3_span 5 = .ok (.iconst 0, 1) := by decide +kernel
theorem dX3_span_6 : decode cX3_span 6 = .ok (.iconst 2, 1) := by decide +kernel
theorem dX3_span_7 : decode cX3_span 7 = .ok (.invokestatic 51, 3) := by decide +kernel
theorem dX3_span_10 : decode cX3_span 10 = .ok (.ifCond .ne 13, 3) := by decide +kernel
theorem dX3_span_13 : decode cX3_span 13 = .ok (.new 59, 3) := by decide +kernel
theorem dX3_span_16 : decode cX3_span 16 = .ok (.dup, 1) := by decide +kernel
theorem dX3_span_17 : decode cX3_span 17 = .ok (.ldc 242, 2) := by decide +kernel
theorem dX3_span_19 : decode cX3_span 19 = .ok (.invokespecial 63, 3) := by decide +kernel
theorem dX3_span_22 : decode cX3_span 22 = .ok (.athrow, 1) := by decide +kernel
theorem dX3_span_23 : decode cX3_span 23 = .ok (.iload_n 1, 1) := by decide +kernel
theorem dX3_span_24 : decode cX3_span 24 = .ok (.aload_n 0, 1) := by decide +kernel
theorem dX3_span_25 : decode cX3_span 25 = .ok (.getfield 32, 3) := by decide +kernel
theorem dX3_span_28 : decode cX3_span 28 = .ok (.getfield 244, 3) := by decide +kernel
theorem dX3_span_31 : decode cX3_span 31 = .ok (.if_icmp .lt 5, 3) := by decide +kernel
theorem dX3_span_34 : decode cX3_span 34 = .ok (.iconst (-1), 1) := by decide +kernel
theorem dX3_span_35 : decode cX3_span 35 = .ok (.ireturn, 1) := by decide +kernel
theorem dX3_span_36 : decode cX3_span 36 = .ok (.iload_n 2, 1) := by decide +kernel
theorem dX3_span_37 : decode cX3_span 37 = .ok (.ifCond .ne 12, 3) := by decide +kernel
theorem dX3_span_40 : decode cX3_span 40 = .ok (.aload_n 0, 1) := by decide +kernel
theorem dX3_span_41 : decode cX3_span 41 = .ok (.getfield 32, 3) := by decide +kernel
theorem dX3_span_44 : decode cX3_span 44 = .ok (.iload_n 1, 1) := by decide +kernel
theorem dX3_span_45 : decode cX3_span 45 = .ok (.invokevirtual 230, 3) := by decide +kernel
theorem dX3_span_48 : decode cX3_span 48 = .ok (.ireturn, 1) := by decide +kernel
theorem dX3_span_49 : decode cX3_span 49 = .ok (.iload_n 2, 1) := by decide +kernel
theorem dX3_span_50 : decode cX3_span 50 = .ok (.iconst 1, 1) := by decide +kernel
theorem dX3_span_51 : decode cX3_span 51 = .ok (.if_icmp .ne 21, 3) := by decide +kernel
theorem dX3_span_54 : decode cX3_span 54 = .ok (.aload_n 0, 1) := by decide +kernel
theorem dX3_span_55 : decode cX3_span 55 = .ok (.getfield 32, 3) := by decide +kernel
theorem dX3_span_58 : decode cX3_span 58 = .ok (.iload_n 1, 1) := by decide +kernel
theorem dX3_span_59 : decode cX3_span 59 = .ok (.aload_n 0, 1) := by decide +kernel
theorem dX3_span_60 : decode cX3_span 60 = .ok (.getfield 12, 3) := by decide +kernel
theorem dX3_span_63 : decode cX3_span 63 = .ok (.getfield 129, 3) := by decide +kernel
theorem dX3_span_66 : decode cX3_span 66 = .ok (.invokevirtual 216, 3) := by decide +kernel
theorem dX3_span_69 : decode cX3_span 69 = .ok (.goto 11, 3) := by decide +kernel
theorem dX3_span_72 : decode cX3_span 72 = .ok (.aload_n 0, 1) := by decide +kernel
theorem dX3_span_73 : decode cX3_span 73 = .ok (.getfield 32, 3) := by decide +kernel
theorem dX3_span_76 : decode cX3_span 76 = .ok (.iload_n 1, 1) := by decide +kernel
theorem dX3_span_77 : decode cX3_span 77 = .ok (.invokevirtual 220, 3) := by decide +kernel
theorem dX3_span_80 : decode cX3_span 80 = .ok (.ireturn, 1) := by decide +kernel
set_option maxRecDepth 20000 in
theorem ggX3_count_X1_moverCount : GoodIn wsX3_count wsX1_moverCount := goodIn_r _ [12, 13, 34, 35, 36, 37, 38, 39, 40, 41] (by decide +kernel) (by decide +kernel)
set_option maxRecDepth 20000 in
theorem gX3_count_X1_moverCount : GoodIn wsX3_count (wsV RX3 183 RX1 yX1_moverCount wsX1_moverCount) := goodIn_app (goodIn_of _ (by decide +kernel)) ggX3_count_X1_moverCount
set_option maxRecDepth 20000 in
theorem ggX3_count_X1_allTurned : GoodIn wsX3_count wsX1_allTurned := goodIn_r _ [17, 18, 34, 35, 36, 37, 38, 39, 40, 41] (by decide +kernel) (by decide +kernel)
set_option maxRecDepth 20000 in
theorem gX3_count_X1_allTurned : GoodIn wsX3_count (wsV RX3 247 RX1 yX1_allTurned wsX1_allTurned) := goodIn_app (goodIn_of _ (by decide +kernel)) ggX3_count_X1_allTurned
set_option maxRecDepth 20000 in
theorem ggX3_count_X1_turnedOf : GoodIn wsX3_count wsX1_turnedOf := goodIn_r _ [22, 18, 23, 24, 25, 34, 35, 36, 37, 38, 39, 40, 41] (by decide +kernel) (by decide +kernel)
set_option maxRecDepth 20000 in
theorem gX3_count_X1_turnedOf : GoodIn wsX3_count (wsV RX3 236 RX1 yX1_turnedOf wsX1_turnedOf) := goodIn_app (goodIn_of _ (by decide +kernel)) ggX3_count_X1_turnedOf
theorem dX3_count_0 : decode cX3_count 0 = .ok (.iload_n 1, 1) := by decide +kernel
theorem dX3_count_1 : decode cX3_count 1 = .ok (.tableswitch 105 0 6 #[43, 51, 59, 67, 75, 84, 100], 43) := by decide +kernel
theorem dX3_count_44 : decode cX3_count 44 = .ok (.aload_n 0, 1) := by decide +kernel
theorem dX3_count_45 : decode cX3_count 45 = .ok (.getfield 12, 3) := by decide +kernel
theorem dX3_count_48 : decode cX3_count 48 = .ok (.getfield 129, 3) := by decide +kernel
theorem dX3_count_51 : decode cX3_count 51 = .ok (.ireturn, 1) := by decide +kernel
theorem dX3_count_52 : decode cX3_count 52 = .ok (.aload_n 0, 1) := by decide +kernel
theorem dX3_count_53 : decode cX3_count 53 = .ok (.getfield 12, 3) := by decide +kernel
theorem dX3_count_56 : decode cX3_count 56 = .ok (.invokevirtual 183, 3) := by decide +kernel
theorem dX3_count_59 : decode cX3_count 59 = .ok (.ireturn, 1) := by decide +kernel
theorem dX3_count_60 : decode cX3_count 60 = .ok (.aload_n 0, 1) := by decide +kernel
theorem dX3_count_61 : decode cX3_count 61 = .ok (.getfield 32, 3) := by decide +kernel
theorem dX3_count_64 : decode cX3_count 64 = .ok (.getfield 244, 3) := by decide +kernel
theorem dX3_count_67 : decode cX3_count 67 = .ok (.ireturn, 1) := by decide +kernel
theorem dX3_count_68 : decode cX3_count 68 = .ok (.aload_n 0, 1) := by decide +kernel
theorem dX3_count_69 : decode cX3_count 69 = .ok (.getfield 12, 3) := by decide +kernel
theorem dX3_count_72 : decode cX3_count 72 = .ok (.invokevirtual 247, 3) := by decide +kernel
theorem dX3_count_75 : decode cX3_count 75 = .ok (.ireturn, 1) := by decide +kernel
theorem dX3_count_76 : decode cX3_count 76 = .ok (.aload_n 0, 1) := by decide +kernel
theorem dX3_count_77 : decode cX3_count 77 = .ok (.getfield 12, 3) := by decide +kernel
theorem dX3_count_80 : decode cX3_count 80 = .ok (.iconst 1, 1) := by decide +kernel
theorem dX3_count_81 : decode cX3_count 81 = .ok (.invokevirtual 236, 3) := by decide +kernel
theorem dX3_count_84 : decode cX3_count 84 = .ok (.ireturn, 1) := by decide +kernel
theorem dX3_count_85 : decode cX3_count 85 = .ok (.aload_n 0, 1) := by decide +kernel
theorem dX3_count_86 : decode cX3_count 86 = .ok (.getfield 12, 3) := by decide +kernel
theorem dX3_count_89 : decode cX3_count 89 = .ok (.invokevirtual 183, 3) := by decide +kernel
theorem dX3_count_92 : decode cX3_count 92 = .ok (.aload_n 0, 1) := by decide +kernel
theorem dX3_count_93 : decode cX3_count 93 = .ok (.getfield 32, 3) := by decide +kernel
theorem dX3_count_96 : decode cX3_count 96 = .ok (.getfield 244, 3) := by decide +kernel
theorem dX3_count_99 : decode cX3_count 99 = .ok (.isub, 1) := by decide +kernel
theorem dX3_count_100 : decode cX3_count 100 = .ok (.ireturn, 1) := by decide +kernel
theorem dX3_count_101 : decode cX3_count 101 = .ok (.aload_n 0, 1) := by decide +kernel
theorem dX3_count_102 : decode cX3_count 102 = .ok (.getfield 24, 3) := by decide +kernel
theorem dX3_count_105 : decode cX3_count 105 = .ok (.ireturn, 1) := by decide +kernel
theorem dX3_count_106 : decode cX3_count 106 = .ok (.new 59, 3) := by decide +kernel
theorem dX3_count_109 : decode cX3_count 109 = .ok (.dup, 1) := by decide +kernel
theorem dX3_count_110 : decode cX3_count 110 = .ok (.ldc 250, 2) := by decide +kernel
theorem dX3_count_112 : decode cX3_count 112 = .ok (.invokespecial 63, 3) := by decide +kernel
theorem dX3_count_115 : decode cX3_count 115 = .ok (.athrow, 1) := by decide +kernel
theorem dX3_setting_0 : decode cX3_setting 0 = .ok (.iload_n 1, 1) := by decide +kernel
theorem dX3_setting_1 : decode cX3_setting 1 = .ok (.ifCond .eq 18, 3) := by decide +kernel
theorem dX3_setting_4 : decode cX3_setting 4 = .ok (.iload_n 1, 1) := by decide +kernel
theorem dX3_setting_5 : decode cX3_setting 5 = .ok (.iconst 1, 1) := by decide +kernel
theorem dX3_setting_6 : decode cX3_setting 6 = .ok (.if_icmp .eq 13, 3) := by decide +kernel
theorem dX3_setting_9 : decode cX3_setting 9 = .ok (.new 88, 3) := by decide +kernel
theorem dX3_setting_12 : decode cX3_setting 12 = .ok (.dup, 1) := by decide +kernel
theorem dX3_setting_13 : decode cX3_setting 13 = .ok (.ldc 149, 2) := by decide +kernel
theorem dX3_setting_15 : decode cX3_setting 15 = .ok (.invokespecial 92, 3) := by decide +kernel
theorem dX3_setting_18 : decode cX3_setting 18 = .ok (.athrow, 1) := by decide +kernel
theorem dX3_setting_19 : decode cX3_setting 19 = .ok (.iload_n 1, 1) := by decide +kernel
theorem dX3_setting_20 : decode cX3_setting 20 = .ok (.ifCond .ne 13, 3) := by decide +kernel
theorem dX3_setting_23 : decode cX3_setting 23 = .ok (.aload_n 0, 1) := by decide +kernel
theorem dX3_setting_24 : decode cX3_setting 24 = .ok (.getfield 12, 3) := by decide +kernel
theorem dX3_setting_27 : decode cX3_setting 27 = .ok (.getfield 156, 3) := by decide +kernel
theorem dX3_setting_30 : decode cX3_setting 30 = .ok (.goto 10, 3) := by decide +kernel
theorem dX3_setting_33 : decode cX3_setting 33 = .ok (.aload_n 0, 1) := by decide +kernel
theorem dX3_setting_34 : decode cX3_setting 34 = .ok (.getfield 12, 3) := by decide +kernel
theorem dX3_setting_37 : decode cX3_setting 37 = .ok (.getfield 159, 3) := by decide +kernel
theorem dX3_setting_40 : decode cX3_setting 40 = .ok (.ireturn, 1) := by decide +kernel
set_option maxRecDepth 20000 in
theorem ggX3_leaderAfter_X3_isWithin : GoodIn wsX3_leaderAfter wsX3_isWithin := goodIn_r _ [7] (by decide +kernel) (by decide +kernel)
set_option maxRecDepth 20000 in
theorem gX3_leaderAfter_X3_isWithin : GoodIn wsX3_leaderAfter (va_wsS RX3 51 yX3_isWithin wsX3_isWithin) := goodIn_app (goodIn_of _ (by decide +kernel)) ggX3_leaderAfter_X3_isWithin
set_option maxRecDepth 20000 in
theorem ggX3_leaderAfter_X0_turnsWithin : GoodIn wsX3_leaderAfter wsX0_turnsWithin := goodIn_r _ [12, 13, 14, 15, 33, 34, 35, 36, 37, 38] (by decide +kernel) (by decide +kernel)
set_option maxRecDepth 20000 in
theorem gX3_leaderAfter_X0_turnsWithin : GoodIn wsX3_leaderAfter (wsV RX3 254 RX0 yX0_turnsWithin wsX0_turnsWithin) := goodIn_app (goodIn_of _ (by decide +kernel)) ggX3_leaderAfter_X0_turnsWithin
set_option maxRecDepth 20000 in
theorem ggX3_leaderAfter_X0_winnerIn : GoodIn wsX3_leaderAfter wsX0_winnerIn := goodIn_r _ [19, 20, 21, 22, 23, 11, 24, 13, 33, 34, 35, 36, 37, 38] (by decide +kernel) (by decide +kernel)
set_option maxRecDepth 20000 in
theorem gX3_leaderAfter_X0_winnerIn : GoodIn wsX3_leaderAfter (wsV RX3 230 RX0 yX0_winnerIn wsX0_winnerIn) := goodIn_app (goodIn_of _ (by decide +kernel)) ggX3_leaderAfter_X0_winnerIn
theorem dX3_leaderAfter_0 : decode cX3_leaderAfter 0 = .ok (.iload_n 1, 1) := by decide +kernel
theorem dX3_leaderAfter_1 : decode cX3_leaderAfter 1 = .ok (.iconst 0, 1) := by decide +kernel
theorem dX3_leaderAfter_2 : decode cX3_leaderAfter 2 = .ok (.sipush 9999, 3) := by decide +kernel
theorem dX3_leaderAfter_5 : decode cX3_leaderAfter 5 = .ok (.invokestatic 51, 3) := by decide +kernel
theorem dX3_leaderAfter_8 : decode cX3_leaderAfter 8 = .ok (.ifCond .ne 13, 3) := by decide +kernel
theorem dX3_leaderAfter_11 : decode cX3_leaderAfter 11 = .ok (.new 59, 3) := by decide +kernel
theorem dX3_leaderAfter_14 : decode cX3_leaderAfter 14 = .ok (.dup, 1) := by decide +kernel
theorem dX3_leaderAfter_15 : decode cX3_leaderAfter 15 = .ok (.ldc 252, 2) := by decide +kernel
theorem dX3_leaderAfter_17 : decode cX3_leaderAfter 17 = .ok (.invokespecial 63, 3) := by decide +kernel
theorem dX3_leaderAfter_20 : decode cX3_leaderAfter 20 = .ok (.athrow, 1) := by decide +kernel
theorem dX3_leaderAfter_21 : decode cX3_leaderAfter 21 = .ok (.aload_n 0, 1) := by decide +kernel
theorem dX3_leaderAfter_22 : decode cX3_leaderAfter 22 = .ok (.getfield 32, 3) := by decide +kernel
theorem dX3_leaderAfter_25 : decode cX3_leaderAfter 25 = .ok (.aload_n 0, 1) := by decide +kernel
theorem dX3_leaderAfter_26 : decode cX3_leaderAfter 26 = .ok (.getfield 32, 3) := by decide +kernel
theorem dX3_leaderAfter_29 : decode cX3_leaderAfter 29 = .ok (.iload_n 1, 1) := by decide +kernel
theorem dX3_leaderAfter_30 : decode cX3_leaderAfter 30 = .ok (.invokevirtual 254, 3) := by decide +kernel
theorem dX3_leaderAfter_33 : decode cX3_leaderAfter 33 = .ok (.invokevirtual 230, 3) := by decide +kernel
theorem dX3_leaderAfter_36 : decode cX3_leaderAfter 36 = .ok (.ireturn, 1) := by decide +kernel
set_option maxRecDepth 20000 in
theorem ggX3_overtakes_X1_has : GoodIn wsX3_overtakes wsX1_has := goodIn_r _ [11, 12, 50, 51, 52, 53, 54, 55, 56, 57] (by decide +kernel) (by decide +kernel)
set_option maxRecDepth 20000 in
theorem gX3_overtakes_X1_has : GoodIn wsX3_overtakes (wsV RX3 85 RX1 yX1_has wsX1_has) := goodIn_app (goodIn_of _ (by decide +kernel)) ggX3_overtakes_X1_has
set_option maxRecDepth 20000 in
theorem ggX3_overtakes_X1_isAhead : GoodIn wsX3_overtakes wsX1_isAhead := goodIn_r _ [16, 17, 18, 19, 10, 20, 21, 22, 23, 24, 25, 26, 27, 28, 29, 30, 31, 32, 33, 34, 35, 50, 51, 52, 53, 54, 55, 56, 57] (by decide +kernel) (by decide +kernel)
set_option maxRecDepth 20000 in
theorem gX3_overtakes_X1_isAhead : GoodIn wsX3_overtakes (wsV RX3 257 RX1 yX1_isAhead wsX1_isAhead) := goodIn_app (goodIn_of _ (by decide +kernel)) ggX3_overtakes_X1_isAhead
set_option maxRecDepth 20000 in
theorem ggX3_overtakes_X1_speedOf : GoodIn wsX3_overtakes wsX1_speedOf := goodIn_r _ [20, 21, 50, 51, 52, 53, 54, 55, 56, 57] (by decide +kernel) (by decide +kernel)
set_option maxRecDepth 20000 in
theorem gX3_overtakes_X1_speedOf : GoodIn wsX3_overtakes (wsV RX3 103 RX1 yX1_speedOf wsX1_speedOf) := goodIn_app (goodIn_of _ (by decide +kernel)) ggX3_overtakes_X1_speedOf
set_option maxRecDepth 20000 in
theorem ggX3_overtakes_X1_valueOf : GoodIn wsX3_overtakes wsX1_valueOf := goodIn_r _ [29, 30, 50, 51, 52, 53, 54, 55, 56, 57] (by decide +kernel) (by decide +kernel)
set_option maxRecDepth 20000 in
theorem gX3_overtakes_X1_valueOf : GoodIn wsX3_overtakes (wsV RX3 93 RX1 yX1_valueOf wsX1_valueOf) := goodIn_app (goodIn_of _ (by decide +kernel)) ggX3_overtakes_X1_valueOf
set_option maxRecDepth 20000 in
theorem ggX3_overtakes_X3_reduced : GoodIn wsX3_overtakes wsX3_reduced := goodIn_r _ [41] (by decide +kernel) (by decide +kernel)
set_option maxRecDepth 20000 in
theorem gX3_overtakes_X3_reduced : GoodIn wsX3_overtakes (va_wsS RX3 260 yX3_reduced wsX3_reduced) := goodIn_app (goodIn_of _ (by decide +kernel)) ggX3_overtakes_X3_reduced
theorem dX3_overtakes_0 : decode cX3_overtakes 0 = .ok (.aload_n 0, 1) := by decide +kernel
theorem dX3_overtakes_1 : decode cX3_overtakes 1 = .ok (.getfield 12, 3) := by decide +kernel
theorem dX3_overtakes_4 : decode cX3_overtakes 4 = .ok (.iload_n 1, 1) := by decide +kernel
theorem dX3_overtakes_5 : decode cX3_overtakes 5 = .ok (.invokevirtual 85, 3) := by decide +kernel
theorem dX3_overtakes_8 : decode cX3_overtakes 8 = .ok (.ifCond .eq 14, 3) := by decide +kernel
theorem dX3_overtakes_11 : decode cX3_overtakes 11 = .ok (.aload_n 0, 1) := by decide +kernel
theorem dX3_overtakes_12 : decode cX3_overtakes 12 = .ok (.getfield 12, 3) := by decide +kernel
theorem dX3_overtakes_15 : decode cX3_overtakes 15 = .ok (.iload_n 2, 1) := by decide +kernel
theorem dX3_overtakes_16 : decode cX3_overtakes 16 = .ok (.invokevirtual 85, 3) := by decide +kernel
theorem dX3_overtakes_19 : decode cX3_overtakes 19 = .ok (.ifCond .ne 13, 3) := by decide +kernel
theorem dX3_overtakes_22 : decode cX3_overtakes 22 = .ok (.new 88, 3) := by decide +kernel
theorem dX3_overtakes_25 : decode cX3_overtakes 25 = .ok (.dup, 1) := by decide +kernel
theorem dX3_overtakes_26 : decode cX3_overtakes 26 = .ok (.ldc 90, 2) := by decide +kernel
theorem dX3_overtakes_28 : decode cX3_overtakes 28 = .ok (.invokespecial 92, 3) := by decide +kernel
theorem dX3_overtakes_31 : decode cX3_overtakes 31 = .ok (.athrow, 1) := by decide +kernel
theorem dX3_overtakes_32 : decode cX3_overtakes 32 = .ok (.iload_n 3, 1) := by decide +kernel
theorem dX3_overtakes_33 : decode cX3_overtakes 33 = .ok (.ifCond .eq 18, 3) := by decide +kernel
theorem dX3_overtakes_36 : decode cX3_overtakes 36 = .ok (.iload_n 3, 1) := by decide +kernel
theorem dX3_overtakes_37 : decode cX3_overtakes 37 = .ok (.iconst 1, 1) := by decide +kernel
theorem dX3_overtakes_38 : decode cX3_overtakes 38 = .ok (.if_icmp .eq 13, 3) := by decide +kernel
theorem dX3_overtakes_41 : decode cX3_overtakes 41 = .ok (.new 59, 3) := by decide +kernel
theorem dX3_overtakes_44 : decode cX3_overtakes 44 = .ok (.dup, 1) := by decide +kernel
theorem dX3_overtakes_45 : decode cX3_overtakes 45 = .ok (.ldc 226, 2) := by decide +kernel
theorem dX3_overtakes_47 : decode cX3_overtakes 47 = .ok (.invokespecial 63, 3) := by decide +kernel
theorem dX3_overtakes_50 : decode cX3_overtakes 50 = .ok (.athrow, 1) := by decide +kernel
theorem dX3_overtakes_51 : decode cX3_overtakes 51 = .ok (.aload_n 0, 1) := by decide +kernel
theorem dX3_overtakes_52 : decode cX3_overtakes 52 = .ok (.getfield 12, 3) := by decide +kernel
theorem dX3_overtakes_55 : decode cX3_overtakes 55 = .ok (.iload_n 1, 1) := by decide +kernel
theorem dX3_overtakes_56 : decode cX3_overtakes 56 = .ok (.iload_n 2, 1) := by decide +kernel
theorem dX3_overtakes_57 : decode cX3_overtakes 57 = .ok (.iconst 0, 1) := by decide +kernel
theorem dX3_overtakes_58 : decode cX3_overtakes 58 = .ok (.invokevirtual 257, 3) := by decide +kernel
theorem dX3_overtakes_61 : decode cX3_overtakes 61 = .ok (.ifCond .eq 19, 3) := by decide +kernel
theorem dX3_overtakes_64 : decode cX3_overtakes 64 = .ok (.iload_n 3, 1) := by decide +kernel
theorem dX3_overtakes_65 : decode cX3_overtakes 65 = .ok (.ifCond .ne 13, 3) := by decide +kernel
theorem dX3_overtakes_68 : decode cX3_overtakes 68 = .ok (.aload_n 0, 1) := by decide +kernel
theorem dX3_overtakes_69 : decode cX3_overtakes 69 = .ok (.getfield 12, 3) := by decide +kernel
theorem dX3_overtakes_72 : decode cX3_overtakes 72 = .ok (.getfield 129, 3) := by decide +kernel
theorem dX3_overtakes_75 : decode cX3_overtakes 75 = .ok (.goto 4, 3) := by decide +kernel
theorem dX3_overtakes_78 : decode cX3_overtakes 78 = .ok (.iconst 1, 1) := by decide +kernel
theorem dX3_overtakes_79 : decode cX3_overtakes 79 = .ok (.ireturn, 1) := by decide +kernel
theorem dX3_overtakes_80 : decode cX3_overtakes 80 = .ok (.aload_n 0, 1) := by decide +kernel
theorem dX3_overtakes_81 : decode cX3_overtakes 81 = .ok (.getfield 12, 3) := by decide +kernel
theorem dX3_overtakes_84 : decode cX3_overtakes 84 = .ok (.iload_n 1, 1) := by decide +kernel
theorem dX3_overtakes_85 : decode cX3_overtakes 85 = .ok (.invokevirtual 103, 3) := by decide +kernel
theorem dX3_overtakes_88 : decode cX3_overtakes 88 = .ok (.aload_n 0, 1) := by decide +kernel
theorem dX3_overtakes_89 : decode cX3_overtakes 89 = .ok (.getfield 12, 3) := by decide +kernel
theorem dX3_overtakes_92 : decode cX3_overtakes 92 = .ok (.iload_n 2, 1) := by decide +kernel
theorem dX3_overtakes_93 : decode cX3_overtakes 93 = .ok (.invokevirtual 103, 3) := by decide +kernel
theorem dX3_overtakes_96 : decode cX3_overtakes 96 = .ok (.isub, 1) := by decide +kernel
theorem dX3_overtakes_97 : decode cX3_overtakes 97 = .ok (.istore 4, 2) := by decide +kernel
theorem dX3_overtakes_99 : decode cX3_overtakes 99 = .ok (.iload 4, 2) := by decide +kernel
theorem dX3_overtakes_101 : decode cX3_overtakes 101 = .ok (.ifCond .gt 5, 3) := by decide +kernel
theorem dX3_overtakes_104 : decode cX3_overtakes 104 = .ok (.iconst 0, 1) := by decide +kernel
theorem dX3_overtakes_105 : decode cX3_overtakes 105 = .ok (.ireturn, 1) := by decide +kernel
theorem dX3_overtakes_106 : decode cX3_overtakes 106 = .ok (.aload_n 0, 1) := by decide +kernel
theorem dX3_overtakes_107 : decode cX3_overtakes 107 = .ok (.getfield 12, 3) := by decide +kernel
theorem dX3_overtakes_110 : decode cX3_overtakes 110 = .ok (.iload_n 2, 1) := by decide +kernel
theorem dX3_overtakes_111 : decode cX3_overtakes 111 = .ok (.invokevirtual 93, 3) := by decide +kernel
theorem dX3_overtakes_114 : decode cX3_overtakes 114 = .ok (.aload_n 0, 1) := by decide +kernel
theorem dX3_overtakes_115 : decode cX3_overtakes 115 = .ok (.getfield 12, 3) := by decide +kernel
theorem dX3_overtakes_118 : decode cX3_overtakes 118 = .ok (.iload_n 1, 1) := by decide +kernel
theorem dX3_overtakes_119 : decode cX3_overtakes 119 = .ok (.invokevirtual 93, 3) := by decide +kernel
theorem dX3_overtakes_122 : decode cX3_overtakes 122 = .ok (.isub, 1) := by decide +kernel
theorem dX3_overtakes_123 : decode cX3_overtakes 123 = .ok (.istore 5, 2) := by decide +kernel
theorem dX3_overtakes_125 : decode cX3_overtakes 125 = .ok (.iload 4, 2) := by decide +kernel
theorem dX3_overtakes_127 : decode cX3_overtakes 127 = .ok (.iload 5, 2) := by decide +kernel
theorem dX3_overtakes_129 : decode cX3_overtakes 129 = .ok (.invokestatic 260, 3) := by decide +kernel
theorem dX3_overtakes_132 : decode cX3_overtakes 132 = .ok (.istore 6, 2) := by decide +kernel
theorem dX3_overtakes_134 : decode cX3_overtakes 134 = .ok (.iload_n 3, 1) := by decide +kernel
theorem dX3_overtakes_135 : decode cX3_overtakes 135 = .ok (.ifCond .ne 24, 3) := by decide +kernel
theorem dX3_overtakes_138 : decode cX3_overtakes 138 = .ok (.aload_n 0, 1) := by decide +kernel
theorem dX3_overtakes_139 : decode cX3_overtakes 139 = .ok (.getfield 12, 3) := by decide +kernel
theorem dX3_overtakes_142 : decode cX3_overtakes 142 = .ok (.getfield 129, 3) := by decide +kernel
theorem dX3_overtakes_145 : decode cX3_overtakes 145 = .ok (.iload 6, 2) := by decide +kernel
theorem dX3_overtakes_147 : decode cX3_overtakes 147 = .ok (.imul, 1) := by decide +kernel
theorem dX3_overtakes_148 : decode cX3_overtakes 148 = .ok (.iload 5, 2) := by decide +kernel
theorem dX3_overtakes_150 : decode cX3_overtakes 150 = .ok (.iload 4, 2) := by decide +kernel
theorem dX3_overtakes_152 : decode cX3_overtakes 152 = .ok (.invokestatic 260, 3) := by decide +kernel
theorem dX3_overtakes_155 : decode cX3_overtakes 155 = .ok (.iadd, 1) := by decide +kernel
theorem dX3_overtakes_156 : decode cX3_overtakes 156 = .ok (.goto 5, 3) := by decide +kernel
theorem dX3_overtakes_159 : decode cX3_overtakes 159 = .ok (.iload 6, 2) := by decide +kernel
theorem dX3_overtakes_161 : decode cX3_overtakes 161 = .ok (.ireturn, 1) := by decide +kernel
set_option maxRecDepth 20000 in
theorem ggX3_turnsIn_X3_isWithin : GoodIn wsX3_turnsIn wsX3_isWithin := goodIn_r _ [6] (by decide +kernel) (by decide +kernel)
set_option maxRecDepth 20000 in
theorem gX3_turnsIn_X3_isWithin : GoodIn wsX3_turnsIn (va_wsS RX3 51 yX3_isWithin wsX3_isWithin) := goodIn_app (goodIn_of _ (by decide +kernel)) ggX3_turnsIn_X3_isWithin
set_option maxRecDepth 20000 in
theorem ggX3_turnsIn_X3_courseOf : GoodIn wsX3_turnsIn wsX3_courseOf := goodIn_r _ [10, 11, 12, 21, 22, 23, 24, 25, 26, 27, 28] (by decide +kernel) (by decide +kernel)
set_option maxRecDepth 20000 in
theorem gX3_turnsIn_X3_courseOf : GoodIn wsX3_turnsIn (wsV RX3 142 RX3 yX3_courseOf wsX3_courseOf) := goodIn_app (goodIn_of _ (by decide +kernel)) ggX3_turnsIn_X3_courseOf
set_option maxRecDepth 20000 in
theorem ggX3_turnsIn_X0_turnsWithin : GoodIn wsX3_turnsIn wsX0_turnsWithin := goodIn_r _ [17, 18, 19, 20, 29, 30, 31, 32, 33, 34] (by decide +kernel) (by decide +kernel)
set_option maxRecDepth 20000 in
theorem gX3_turnsIn_X0_turnsWithin : GoodIn wsX3_turnsIn (wsV RX3 254 RX0 yX0_turnsWithin wsX0_turnsWithin) := goodIn_app (goodIn_of _ (by decide +kernel)) ggX3_turnsIn_X0_turnsWithin
theorem dX3_turnsIn_0 : decode cX3_turnsIn 0 = .ok (.iload_n 1, 1) := by decide +kernel
theorem dX3_turnsIn_1 : decode cX3_turnsIn 1 = .ok (.iconst 0, 1) := by decide +kernel
theorem dX3_turnsIn_2 : decode cX3_turnsIn 2 = .ok (.sipush 999, 3) := by decide +kernel
theorem dX3_turnsIn_5 : decode cX3_turnsIn 5 = .ok (.invokestatic 51, 3) := by decide +kernel
theorem dX3_turnsIn_8 : decode cX3_turnsIn 8 = .ok (.ifCond .ne 13, 3) := by decide +kernel
theorem dX3_turnsIn_11 : decode cX3_turnsIn 11 = .ok (.new 59, 3) := by decide +kernel
theorem dX3_turnsIn_14 : decode cX3_turnsIn 14 = .ok (.dup, 1) := by decide +kernel
theorem dX3_turnsIn_15 : decode cX3_turnsIn 15 = .ok (.ldc 109, 2) := by decide +kernel
theorem dX3_turnsIn_17 : decode cX3_turnsIn 17 = .ok (.invokespecial 63, 3) := by decide +kernel
theorem dX3_turnsIn_20 : decode cX3_turnsIn 20 = .ok (.athrow, 1) := by decide +kernel
theorem dX3_turnsIn_21 : decode cX3_turnsIn 21 = .ok (.iconst 0, 1) := by decide +kernel
theorem dX3_turnsIn_22 : decode cX3_turnsIn 22 = .ok (.istore_n 2, 1) := by decide +kernel
theorem dX3_turnsIn_23 : decode cX3_turnsIn 23 = .ok (.iconst 1, 1) := by decide +kernel
theorem dX3_turnsIn_24 : decode cX3_turnsIn 24 = .ok (.istore_n 3, 1) := by decide +kernel
theorem dX3_turnsIn_25 : decode cX3_turnsIn 25 = .ok (.iload_n 3, 1) := by decide +kernel
theorem dX3_turnsIn_26 : decode cX3_turnsIn 26 = .ok (.bipush 15, 2) := by decide +kernel
theorem dX3_turnsIn_28 : decode cX3_turnsIn 28 = .ok (.if_icmp .gt 21, 3) := by decide +kernel
theorem dX3_turnsIn_31 : decode cX3_turnsIn 31 = .ok (.iload_n 2, 1) := by decide +kernel
theorem dX3_turnsIn_32 : decode cX3_turnsIn 32 = .ok (.aload_n 0, 1) := by decide +kernel
theorem dX3_turnsIn_33 : decode cX3_turnsIn 33 = .ok (.iload_n 3, 1) := by decide +kernel
theorem dX3_turnsIn_34 : decode cX3_turnsIn 34 = .ok (.invokevirtual 142, 3) := by decide +kernel
theorem dX3_turnsIn_37 : decode cX3_turnsIn 37 = .ok (.iload_n 1, 1) := by decide +kernel
theorem dX3_turnsIn_38 : decode cX3_turnsIn 38 = .ok (.invokevirtual 254, 3) := by decide +kernel
theorem dX3_turnsIn_41 : decode cX3_turnsIn 41 = .ok (.iadd, 1) := by decide +kernel
theorem dX3_turnsIn_42 : decode cX3_turnsIn 42 = .ok (.istore_n 2, 1) := by decide +kernel
theorem dX3_turnsIn_43 : decode cX3_turnsIn 43 = .ok (.iinc 3 1, 3) := by decide +kernel
theorem dX3_turnsIn_46 : decode cX3_turnsIn 46 = .ok (.goto (-21), 3) := by decide +kernel
theorem dX3_turnsIn_49 : decode cX3_turnsIn 49 = .ok (.iload_n 2, 1) := by decide +kernel
theorem dX3_turnsIn_50 : decode cX3_turnsIn 50 = .ok (.ireturn, 1) := by decide +kernel
set_option maxRecDepth 20000 in
theorem ggX3_leastSpeed_X1_has : GoodIn wsX3_leastSpeed wsX1_has := goodIn_r _ [10, 11, 57, 58, 59, 60, 61, 62, 63, 64] (by decide +kernel) (by decide +kernel)
set_option maxRecDepth 20000 in
theorem gX3_leastSpeed_X1_has : GoodIn wsX3_leastSpeed (wsV RX3 85 RX1 yX1_has wsX1_has) := goodIn_app (goodIn_of _ (by decide +kernel)) ggX3_leastSpeed_X1_has
set_option maxRecDepth 20000 in
theorem ggX3_leastSpeed_X3_isWithin : GoodIn wsX3_leastSpeed wsX3_isWithin := goodIn_r _ [15] (by decide +kernel) (by decide +kernel)
set_option maxRecDepth 20000 in
theorem gX3_leastSpeed_X3_isWithin : GoodIn wsX3_leastSpeed (va_wsS RX3 51 yX3_isWithin wsX3_isWithin) := goodIn_app (goodIn_of _ (by decide +kernel)) ggX3_leastSpeed_X3_isWithin
set_option maxRecDepth 20000 in
theorem ggX3_leastSpeed_X1_foremost : GoodIn wsX3_leastSpeed wsX1_foremost := goodIn_r _ [19, 20, 7, 8, 9, 10, 11, 21, 22, 23, 24, 25, 26, 27, 28, 29, 30, 31, 32, 33, 34, 35, 36, 37, 38, 39, 57, 58, 59, 60, 61, 62, 63, 64] (by decide +kernel) (by decide +kernel)
set_option maxRecDepth 20000 in
theorem gX3_leastSpeed_X1_foremost : GoodIn wsX3_leastSpeed (wsV RX3 263 RX1 yX1_foremost wsX1_foremost) := goodIn_app (goodIn_of _ (by decide +kernel)) ggX3_leastSpeed_X1_foremost
set_option maxRecDepth 20000 in
theorem ggX3_leastSpeed_X3_leastSpeedAgainst : GoodIn wsX3_leastSpeed wsX3_leastSpeedAgainst := goodIn_r _ [43, 5, 44, 45, 46, 47, 48, 27, 28, 9, 29, 21, 22, 23, 24, 25, 30, 31, 32, 33, 34, 35, 36, 37, 38, 39, 49, 50, 51, 52, 53, 54, 55, 56, 57, 58, 59, 60, 61, 62, 63, 64] (by decide +kernel) (by decide +kernel)
set_option maxRecDepth 20000 in
theorem gX3_leastSpeed_X3_leastSpeedAgainst : GoodIn wsX3_leastSpeed (wsV RX3 267 RX3 yX3_leastSpeedAgainst wsX3_leastSpeedAgainst) := goodIn_app (goodIn_of _ (by decide +kernel)) ggX3_leastSpeed_X3_leastSpeedAgainst
theorem dX3_leastSpeed_0 : decode cX3_leastSpeed 0 = .ok (.aload_n 0, 1) := by decide +kernel
theorem dX3_leastSpeed_1 : decode cX3_leastSpeed 1 = .ok (.getfield 12, 3) := by decide +kernel
theorem dX3_leastSpeed_4 : decode cX3_leastSpeed 4 = .ok (.iload_n 1, 1) := by decide +kernel
theorem dX3_leastSpeed_5 : decode cX3_leastSpeed 5 = .ok (.invokevirtual 85, 3) := by decide +kernel
theorem dX3_leastSpeed_8 : decode cX3_leastSpeed 8 = .ok (.ifCond .ne 13, 3) := by decide +kernel
theorem dX3_leastSpeed_11 : decode cX3_leastSpeed 11 = .ok (.new 88, 3) := by decide +kernel
theorem dX3_leastSpeed_14 : decode cX3_leastSpeed 14 = .ok (.dup, 1) := by decide +kernel
theorem dX3_leastSpeed_15 : decode cX3_leastSpeed 15 = .ok (.ldc 90, 2) := by decide +kernel
theorem dX3_leastSpeed_17 : decode cX3_leastSpeed 17 = .ok (.invokespecial 92, 3) := by decide +kernel
theorem dX3_leastSpeed_20 : decode cX3_leastSpeed 20 = .ok (.athrow, 1) := by decide +kernel
theorem dX3_leastSpeed_21 : decode cX3_leastSpeed 21 = .ok (.iload_n 2, 1) := by decide +kernel
theorem dX3_leastSpeed_22 : decode cX3_leastSpeed 22 = .ok (.iconst 0, 1) := by decide +kernel
theorem dX3_leastSpeed_23 : decode cX3_leastSpeed 23 = .ok (.sipush 999, 3) := by decide +kernel
theorem dX3_leastSpeed_26 : decode cX3_leastSpeed 26 = .ok (.invokestatic 51, 3) := by decide +kernel
theorem dX3_leastSpeed_29 : decode cX3_leastSpeed 29 = .ok (.ifCond .ne 13, 3) := by decide +kernel
theorem dX3_leastSpeed_32 : decode cX3_leastSpeed 32 = .ok (.new 59, 3) := by decide +kernel
theorem dX3_leastSpeed_35 : decode cX3_leastSpeed 35 = .ok (.dup, 1) := by decide +kernel
theorem dX3_leastSpeed_36 : decode cX3_leastSpeed 36 = .ok (.ldc 109, 2) := by decide +kernel
theorem dX3_leastSpeed_38 : decode cX3_leastSpeed 38 = .ok (.invokespecial 63, 3) := by decide +kernel
theorem dX3_leastSpeed_41 : decode cX3_leastSpeed 41 = .ok (.athrow, 1) := by decide +kernel
theorem dX3_leastSpeed_42 : decode cX3_leastSpeed 42 = .ok (.aload_n 0, 1) := by decide +kernel
theorem dX3_leastSpeed_43 : decode cX3_leastSpeed 43 = .ok (.getfield 12, 3) := by decide +kernel
theorem dX3_leastSpeed_46 : decode cX3_leastSpeed 46 = .ok (.iconst 0, 1) := by decide +kernel
theorem dX3_leastSpeed_47 : decode cX3_leastSpeed 47 = .ok (.bipush 16, 2) := by decide +kernel
theorem dX3_leastSpeed_49 : decode cX3_leastSpeed 49 = .ok (.iload_n 1, 1) := by decide +kernel
theorem dX3_leastSpeed_50 : decode cX3_leastSpeed 50 = .ok (.iload_n 2, 1) := by decide +kernel
theorem dX3_leastSpeed_51 : decode cX3_leastSpeed 51 = .ok (.invokevirtual 263, 3) := by decide +kernel
theorem dX3_leastSpeed_54 : decode cX3_leastSpeed 54 = .ok (.istore_n 3, 1) := by decide +kernel
theorem dX3_leastSpeed_55 : decode cX3_leastSpeed 55 = .ok (.iload_n 3, 1) := by decide +kernel
theorem dX3_leastSpeed_56 : decode cX3_leastSpeed 56 = .ok (.iconst (-1), 1) := by decide +kernel
theorem dX3_leastSpeed_57 : decode cX3_leastSpeed 57 = .ok (.if_icmp .ne 6, 3) := by decide +kernel
theorem dX3_leastSpeed_60 : decode cX3_leastSpeed 60 = .ok (.bipush (-99), 2) := by decide +kernel
theorem dX3_leastSpeed_62 : decode cX3_leastSpeed 62 = .ok (.ireturn, 1) := by decide +kernel
theorem dX3_leastSpeed_63 : decode cX3_leastSpeed 63 = .ok (.aload_n 0, 1) := by decide +kernel
theorem dX3_leastSpeed_64 : decode cX3_leastSpeed 64 = .ok (.iload_n 3, 1) := by decide +kernel
theorem dX3_leastSpeed_65 : decode cX3_leastSpeed 65 = .ok (.iload_n 1, 1) := by decide +kernel
theorem dX3_leastSpeed_66 : decode cX3_leastSpeed 66 = .ok (.iload_n 2, 1) := by decide +kernel
theorem dX3_leastSpeed_67 : decode cX3_leastSpeed 67 = .ok (.invokevirtual 267, 3) := by decide +kernel
theorem dX3_leastSpeed_70 : decode cX3_leastSpeed 70 = .ok (.ireturn, 1) := by decide +kernel
set_option maxRecDepth 20000 in
theorem ggX3_leadShare_X1_has : GoodIn wsX3_leadShare wsX1_has := goodIn_r _ [12, 13, 47, 48, 49, 50, 51, 52, 53, 54] (by decide +kernel) (by decide +kernel)
set_option maxRecDepth 20000 in
theorem gX3_leadShare_X1_has : GoodIn wsX3_leadShare (wsV RX3 85 RX1 yX1_has wsX1_has) := goodIn_app (goodIn_of _ (by decide +kernel)) ggX3_leadShare_X1_has
set_option maxRecDepth 20000 in
theorem ggX3_leadShare_X0_rowOf : GoodIn wsX3_leadShare wsX0_rowOf := goodIn_r _ [18, 19, 20, 55, 56, 57, 58, 59, 60] (by decide +kernel) (by decide +kernel)
set_option maxRecDepth 20000 in
theorem gX3_leadShare_X0_rowOf : GoodIn wsX3_leadShare (wsV RX3 213 RX0 yX0_rowOf wsX0_rowOf) := goodIn_app (goodIn_of _ (by decide +kernel)) ggX3_leadShare_X0_rowOf
set_option maxRecDepth 20000 in
theorem ggX3_leadShare_X0_moment : GoodIn wsX3_leadShare wsX0_moment := goodIn_r _ [24, 25, 26, 27, 17, 28, 29, 30, 31, 32, 33, 19, 34, 35, 36, 37, 38, 55, 56, 57, 58, 59, 60] (by decide +kernel) (by decide +kernel)
set_option maxRecDepth 20000 in
theorem gX3_leadShare_X0_moment : GoodIn wsX3_leadShare (wsV RX3 271 RX0 yX0_moment wsX0_moment) := goodIn_app (goodIn_of _ (by decide +kernel)) ggX3_leadShare_X0_moment
theorem dX3_leadShare_0 : decode cX3_leadShare 0 = .ok (.aload_n 0, 1) := by decide +kernel
theorem dX3_leadShare_1 : decode cX3_leadShare 1 = .ok (.getfield 12, 3) := by decide +kernel
theorem dX3_leadShare_4 : decode cX3_leadShare 4 = .ok (.iload_n 1, 1) := by decide +kernel
theorem dX3_leadShare_5 : decode cX3_leadShare 5 = .ok (.invokevirtual 85, 3) := by decide +kernel
theorem dX3_leadShare_8 : decode cX3_leadShare 8 = .ok (.ifCond .ne 13, 3) := by decide +kernel
theorem dX3_leadShare_11 : decode cX3_leadShare 11 = .ok (.new 88, 3) := by decide +kernel
theorem dX3_leadShare_14 : decode cX3_leadShare 14 = .ok (.dup, 1) := by decide +kernel
theorem dX3_leadShare_15 : decode cX3_leadShare 15 = .ok (.ldc 90, 2) := by decide +kernel
theorem dX3_leadShare_17 : decode cX3_leadShare 17 = .ok (.invokespecial 92, 3) := by decide +kernel
theorem dX3_leadShare_20 : decode cX3_leadShare 20 = .ok (.athrow, 1) := by decide +kernel
theorem dX3_leadShare_21 : decode cX3_leadShare 21 = .ok (.aload_n 0, 1) := by decide +kernel
theorem dX3_leadShare_22 : decode cX3_leadShare 22 = .ok (.getfield 32, 3) := by decide +kernel
theorem dX3_leadShare_25 : decode cX3_leadShare 25 = .ok (.iload_n 1, 1) := by decide +kernel
theorem dX3_leadShare_26 : decode cX3_leadShare 26 = .ok (.invokevirtual 213, 3) := by decide +kernel
theorem dX3_leadShare_29 : decode cX3_leadShare 29 = .ok (.istore_n 2, 1) := by decide +kernel
theorem dX3_leadShare_30 : decode cX3_leadShare 30 = .ok (.iload_n 2, 1) := by decide +kernel
theorem dX3_leadShare_31 : decode cX3_leadShare 31 = .ok (.iconst (-1), 1) := by decide +kernel
theorem dX3_leadShare_32 : decode cX3_leadShare 32 = .ok (.if_icmp .eq 14, 3) := by decide +kernel
theorem dX3_leadShare_35 : decode cX3_leadShare 35 = .ok (.aload_n 0, 1) := by decide +kernel
theorem dX3_leadShare_36 : decode cX3_leadShare 36 = .ok (.getfield 12, 3) := by decide +kernel
theorem dX3_leadShare_39 : decode cX3_leadShare 39 = .ok (.getfield 159, 3) := by decide +kernel
theorem dX3_leadShare_42 : decode cX3_leadShare 42 = .ok (.iconst 1, 1) := by decide +kernel
theorem dX3_leadShare_43 : decode cX3_leadShare 43 = .ok (.if_icmp .ge 5, 3) := by decide +kernel
theorem dX3_leadShare_46 : decode cX3_leadShare 46 = .ok (.dconst 0, 1) := by decide +kernel
theorem dX3_leadShare_47 : decode cX3_leadShare 47 = .ok (.dreturn, 1) := by decide +kernel
theorem dX3_leadShare_48 : decode cX3_leadShare 48 = .ok (.aload_n 0, 1) := by decide +kernel
theorem dX3_leadShare_49 : decode cX3_leadShare 49 = .ok (.getfield 12, 3) := by decide +kernel
theorem dX3_leadShare_52 : decode cX3_leadShare 52 = .ok (.getfield 129, 3) := by decide +kernel
theorem dX3_leadShare_55 : decode cX3_leadShare 55 = .ok (.aload_n 0, 1) := by decide +kernel
theorem dX3_leadShare_56 : decode cX3_leadShare 56 = .ok (.getfield 12, 3) := by decide +kernel
theorem dX3_leadShare_59 : decode cX3_leadShare 59 = .ok (.getfield 159, 3) := by decide +kernel
theorem dX3_leadShare_62 : decode cX3_leadShare 62 = .ok (.iadd, 1) := by decide +kernel
theorem dX3_leadShare_63 : decode cX3_leadShare 63 = .ok (.i2d, 1) := by decide +kernel
theorem dX3_leadShare_64 : decode cX3_leadShare 64 = .ok (.dstore_n 3, 1) := by decide +kernel
theorem dX3_leadShare_65 : decode cX3_leadShare 65 = .ok (.iload_n 2, 1) := by decide +kernel
theorem dX3_leadShare_66 : decode cX3_leadShare 66 = .ok (.iconst 1, 1) := by decide +kernel
theorem dX3_leadShare_67 : decode cX3_leadShare 67 = .ok (.iadd, 1) := by decide +kernel
theorem dX3_leadShare_68 : decode cX3_leadShare 68 = .ok (.aload_n 0, 1) := by decide +kernel
theorem dX3_leadShare_69 : decode cX3_leadShare 69 = .ok (.getfield 32, 3) := by decide +kernel
theorem dX3_leadShare_72 : decode cX3_leadShare 72 = .ok (.getfield 244, 3) := by decide +kernel
theorem dX3_leadShare_75 : decode cX3_leadShare 75 = .ok (.if_icmp .ge 36, 3) := by decide +kernel
theorem dX3_leadShare_78 : decode cX3_leadShare 78 = .ok (.aload_n 0, 1) := by decide +kernel
theorem dX3_leadShare_79 : decode cX3_leadShare 79 = .ok (.getfield 32, 3) := by decide +kernel
theorem dX3_leadShare_82 : decode cX3_leadShare 82 = .ok (.iload_n 2, 1) := by decide +kernel
theorem dX3_leadShare_83 : decode cX3_leadShare 83 = .ok (.iconst 1, 1) := by decide +kernel
theorem dX3_leadShare_84 : decode cX3_leadShare 84 = .ok (.iadd, 1) := by decide +kernel
theorem dX3_leadShare_85 : decode cX3_leadShare 85 = .ok (.aload_n 0, 1) := by decide +kernel
theorem dX3_leadShare_86 : decode cX3_leadShare 86 = .ok (.getfield 12, 3) := by decide +kernel
theorem dX3_leadShare_89 : decode cX3_leadShare 89 = .ok (.getfield 129, 3) := by decide +kernel
theorem dX3_leadShare_92 : decode cX3_leadShare 92 = .ok (.invokevirtual 271, 3) := by decide +kernel
theorem dX3_leadShare_95 : decode cX3_leadShare 95 = .ok (.dstore 5, 2) := by decide +kernel
theorem dX3_leadShare_97 : decode cX3_leadShare 97 = .ok (.dload 5, 2) := by decide +kernel
theorem dX3_leadShare_99 : decode cX3_leadShare 99 = .ok (.dload_n 3, 1) := by decide +kernel
theorem dX3_leadShare_100 : decode cX3_leadShare 100 = .ok (.dcmp .g, 1) := by decide +kernel
theorem dX3_leadShare_101 : decode cX3_leadShare 101 = .ok (.ifCond .ge 8, 3) := by decide +kernel
theorem dX3_leadShare_104 : decode cX3_leadShare 104 = .ok (.dload 5, 2) := by decide +kernel
theorem dX3_leadShare_106 : decode cX3_leadShare 106 = .ok (.goto 4, 3) := by decide +kernel
theorem dX3_leadShare_109 : decode cX3_leadShare 109 = .ok (.dload_n 3, 1) := by decide +kernel
theorem dX3_leadShare_110 : decode cX3_leadShare 110 = .ok (.dstore_n 3, 1) := by decide +kernel
theorem dX3_leadShare_111 : decode cX3_leadShare 111 = .ok (.dload_n 3, 1) := by decide +kernel
theorem dX3_leadShare_112 : decode cX3_leadShare 112 = .ok (.aload_n 0, 1) := by decide +kernel
theorem dX3_leadShare_113 : decode cX3_leadShare 113 = .ok (.getfield 32, 3) := by decide +kernel
theorem dX3_leadShare_116 : decode cX3_leadShare 116 = .ok (.iload_n 2, 1) := by decide +kernel
theorem dX3_leadShare_117 : decode cX3_leadShare 117 = .ok (.aload_n 0, 1) := by decide +kernel
theorem dX3_leadShare_118 : decode cX3_leadShare 118 = .ok (.getfield 12, 3) := by decide +kernel
theorem dX3_leadShare_121 : decode cX3_leadShare 121 = .ok (.getfield 129, 3) := by decide +kernel
theorem dX3_leadShare_124 : decode cX3_leadShare 124 = .ok (.invokevirtual 271, 3) := by decide +kernel
theorem dX3_leadShare_127 : decode cX3_leadShare 127 = .ok (.dsub, 1) := by decide +kernel
theorem dX3_leadShare_128 : decode cX3_leadShare 128 = .ok (.dstore 5, 2) := by decide +kernel
theorem dX3_leadShare_130 : decode cX3_leadShare 130 = .ok (.dload 5, 2) := by decide +kernel
theorem dX3_leadShare_132 : decode cX3_leadShare 132 = .ok (.dconst 0, 1) := by decide +kernel
theorem dX3_leadShare_133 : decode cX3_leadShare 133 = .ok (.dcmp .l, 1) := by decide +kernel
theorem dX3_leadShare_134 : decode cX3_leadShare 134 = .ok (.ifCond .le 17, 3) := by decide +kernel
theorem dX3_leadShare_137 : decode cX3_leadShare 137 = .ok (.dload 5, 2) := by decide +kernel
theorem dX3_leadShare_139 : decode cX3_leadShare 139 = .ok (.aload_n 0, 1) := by decide +kernel
theorem dX3_leadShare_140 : decode cX3_leadShare 140 = .ok (.getfield 12, 3) := by decide +kernel
theorem dX3_leadShare_143 : decode cX3_leadShare 143 = .ok (.getfield 159, 3) := by decide +kernel
theorem dX3_leadShare_146 : decode cX3_leadShare 146 = .ok (.i2d, 1) := by decide +kernel
theorem dX3_leadShare_147 : decode cX3_leadShare 147 = .ok (.ddiv, 1) := by decide +kernel
theorem dX3_leadShare_148 : decode cX3_leadShare 148 = .ok (.goto 4, 3) := by decide +kernel
theorem dX3_leadShare_151 : decode cX3_leadShare 151 = .ok (.dconst 0, 1) := by decide +kernel
theorem dX3_leadShare_152 : decode cX3_leadShare 152 = .ok (.dreturn, 1) := by decide +kernel
set_option maxRecDepth 20000 in
theorem ggX3_digest_X3_count : GoodIn wsX3_digest wsX3_count := goodIn_ca (goodIn_r _ [10, 11, 12, 3, 13, 14, 15, 16, 17, 18, 19, 20, 21, 22, 23, 24, 25, 26, 27, 28, 29, 30, 31, 32, 9, 33, 220, 221, 222, 223, 224, 225, 226, 227, 228, 229, 230, 231, 232, 233, 234, 235, 236, 237, 238, 239, 240, 241] (by decide +kernel) (by decide +kernel)) (goodIn_sub (fun _ h => List.mem_cons_of_mem _ (List.mem_append_left _ (List.mem_append_right _ h))) (by decide +kernel))
set_option maxRecDepth 20000 in
theorem gX3_digest_X3_count : GoodIn wsX3_digest (wsV RX3 279 RX3 yX3_count wsX3_count) := goodIn_app (goodIn_of _ (by decide +kernel)) ggX3_digest_X3_count
set_option maxRecDepth 20000 in
theorem ggX3_digest_X3_setting : GoodIn wsX3_digest wsX3_setting := goodIn_ca (goodIn_r _ [37, 38, 39, 3, 40, 4, 220, 221, 222, 223, 224, 225, 226, 227, 228, 229, 230, 231, 232, 233, 234, 235] (by decide +kernel) (by decide +kernel)) (goodIn_sub (fun _ h => List.mem_cons_of_mem _ (List.mem_append_right _ h)) (by decide +kernel))
set_option maxRecDepth 20000 in
theorem gX3_digest_X3_setting : GoodIn wsX3_digest (wsV RX3 153 RX3 yX3_setting wsX3_setting) := goodIn_app (goodIn_of _ (by decide +kernel)) ggX3_digest_X3_setting
set_option maxRecDepth 20000 in
theorem ggX3_digest_X1_has : GoodIn wsX3_digest wsX1_has := goodIn_r _ [44, 22, 228, 229, 230, 231, 232, 233, 234, 235] (by decide +kernel) (by decide +kernel)
set_option maxRecDepth 20000 in
theorem gX3_digest_X1_has : GoodIn wsX3_digest (wsV RX3 85 RX1 yX1_has wsX1_has) := goodIn_app (goodIn_of _ (by decide +kernel)) ggX3_digest_X1_has
set_option maxRecDepth 20000 in
theorem ggX3_digest_X3_withMover : GoodIn wsX3_digest wsX3_withMover := goodIn_ca (goodIn_ca (goodIn_r _ [48, 2, 49, 50, 51, 9, 52, 38, 39, 11, 12, 3, 14, 13, 41, 42, 43, 20, 44, 22, 53, 54, 55, 56, 57, 58, 59, 60, 61, 62, 63, 64, 65, 66, 67, 68, 69, 70, 71, 72, 73, 74, 75, 76, 77, 78, 79, 80, 81, 82, 83, 84, 85, 86, 87, 88, 89, 90, 91, 92, 93, 94, 95, 96, 97, 98, 99, 100, 101, 102, 103, 104, 105, 106, 107, 108, 109, 110, 111, 112, 113, 114, 115, 116, 117, 118, 119, 120, 121, 122, 123, 124, 125, 126, 127, 128, 129, 32, 33, 130, 131, 132, 133, 134, 135, 136, 137, 138, 139, 140, 141, 142, 143, 144, 145, 146, 147, 4, 15, 148, 149, 150, 151, 152, 153, 154, 155, 156, 157, 158, 159, 220, 221, 222, 223, 224, 225, 226, 227, 228, 229, 230, 231, 232, 233, 234, 235, 236, 237, 238, 239, 240, 241] (by decide +kernel) (by decide +kernel)) (goodIn_sub (fun _ h => List.mem_cons_of_mem _ (List.mem_append_right _ h)) (by decide +kernel))) (goodIn_sub (fun _ h => List.mem_cons_of_mem _ (List.mem_append_left _ (List.mem_append_right _ h))) (by decide +kernel))
set_option maxRecDepth 20000 in
theorem gX3_digest_X3_withMover : GoodIn wsX3_digest (wsV RX3 282 RX3 yX3_withMover wsX3_withMover) := goodIn_app (goodIn_of _ (by decide +kernel)) ggX3_digest_X3_withMover
set_option maxRecDepth 20000 in
theorem ggX3_digest_X3_contest : GoodIn wsX3_digest wsX3_contest := goodIn_ca (goodIn_ca (goodIn_r _ [163, 38, 39, 11, 12, 3, 13, 129, 32, 9, 33, 90, 91, 92, 93, 14, 94, 95, 96, 97, 98, 99, 100, 101, 102, 103, 104, 105, 164, 165, 166, 167, 168, 169, 170, 171, 86, 87, 88, 89, 41, 42, 43, 20, 44, 22, 110, 111, 112, 113, 114, 115, 116, 117, 118, 119, 28, 29, 30, 31, 27, 220, 221, 222, 223, 224, 225, 226, 227, 228, 229, 230, 231, 232, 233, 234, 235, 236, 237, 238, 239, 240, 241] (by decide +kernel) (by decide +kernel)) (goodIn_sub (fun _ h => List.mem_cons_of_mem _ (List.mem_append_right _ h)) (by decide +kernel))) (goodIn_sub (fun _ h => List.mem_cons_of_mem _ (List.mem_append_left _ (List.mem_append_right _ h))) (by decide +kernel))
set_option maxRecDepth 20000 in
theorem gX3_digest_X3_contest : GoodIn wsX3_digest (wsV RX3 286 RX3 yX3_contest wsX3_contest) := goodIn_app (goodIn_of _ (by decide +kernel)) ggX3_digest_X3_contest
set_option maxRecDepth 20000 in
theorem ggX3_digest_X3_nextTurn : GoodIn wsX3_digest wsX3_nextTurn := goodIn_ca (goodIn_r _ [175, 11, 12, 3, 13, 176, 177, 178, 9, 179, 15, 90, 91, 92, 93, 14, 94, 180, 181, 182, 98, 183, 153, 111, 112, 113, 114, 115, 101, 102, 103, 104, 105, 152, 117, 118, 119, 110, 116, 184, 185, 186, 187, 220, 221, 222, 223, 224, 225, 226, 227, 228, 229, 230, 231, 232, 233, 234, 235, 236, 237, 238, 239, 240, 241] (by decide +kernel) (by decide +kernel)) (goodIn_sub (fun _ h => List.mem_cons_of_mem _ (List.mem_append_left _ (List.mem_append_right _ h))) (by decide +kernel))
set_option maxRecDepth 20000 in
theorem gX3_digest_X3_nextTurn : GoodIn wsX3_digest (wsV RX3 289 RX3 yX3_nextTurn wsX3_nextTurn) := goodIn_app (goodIn_of _ (by decide +kernel)) ggX3_digest_X3_nextTurn
set_option maxRecDepth 20000 in
theorem ggX3_digest_X3_withSpans : GoodIn wsX3_digest wsX3_withSpans := goodIn_ca (goodIn_r _ [191, 14, 15, 2, 192, 193, 194, 9, 195, 11, 12, 3, 13, 129, 32, 33, 95, 96, 97, 98, 99, 100, 101, 102, 103, 104, 105, 110, 111, 112, 113, 114, 115, 116, 117, 118, 119, 220, 221, 222, 223, 224, 225, 226, 227, 236, 237, 238, 239, 240, 241, 228, 229, 230, 231, 232, 233, 234, 235] (by decide +kernel) (by decide +kernel)) (goodIn_sub (fun _ h => List.mem_cons_of_mem _ (List.mem_append_left _ (List.mem_append_right _ h))) (by decide +kernel))
set_option maxRecDepth 20000 in
theorem gX3_digest_X3_withSpans : GoodIn wsX3_digest (wsV RX3 292 RX3 yX3_withSpans wsX3_withSpans) := goodIn_app (goodIn_of _ (by decide +kernel)) ggX3_digest_X3_withSpans
set_option maxRecDepth 20000 in
theorem ggX3_digest_X3_leaderAfter : GoodIn wsX3_digest wsX3_leaderAfter := goodIn_ca (goodIn_r _ [199, 11, 12, 14, 129, 32, 9, 33, 200, 201, 202, 98, 203, 105, 115, 114, 95, 96, 97, 99, 100, 101, 102, 103, 104, 220, 221, 222, 223, 224, 225, 226, 227, 236, 237, 238, 239, 240, 241] (by decide +kernel) (by decide +kernel)) (goodIn_sub (fun _ h => List.mem_cons_of_mem _ (List.mem_append_left _ (List.mem_append_right _ h))) (by decide +kernel))
set_option maxRecDepth 20000 in
theorem gX3_digest_X3_leaderAfter : GoodIn wsX3_digest (wsV RX3 296 RX3 yX3_leaderAfter wsX3_leaderAfter) := goodIn_app (goodIn_of _ (by decide +kernel)) ggX3_digest_X3_leaderAfter
set_option maxRecDepth 20000 in
theorem ggX3_digest_X3_turnsIn : GoodIn wsX3_digest wsX3_turnsIn := goodIn_ca (goodIn_r _ [207, 11, 12, 129, 32, 9, 33, 90, 91, 92, 93, 14, 94, 200, 201, 202, 98, 203, 105, 115, 114, 220, 221, 222, 223, 224, 225, 226, 227, 236, 237, 238, 239, 240, 241] (by decide +kernel) (by decide +kernel)) (goodIn_sub (fun _ h => List.mem_cons_of_mem _ (List.mem_append_left _ (List.mem_append_right _ h))) (by decide +kernel))
set_option maxRecDepth 20000 in
theorem gX3_digest_X3_turnsIn : GoodIn wsX3_digest (wsV RX3 299 RX3 yX3_turnsIn wsX3_turnsIn) := goodIn_app (goodIn_of _ (by decide +kernel)) ggX3_digest_X3_turnsIn
set_option maxRecDepth 20000 in
theorem ggX3_digest_X2_hashedInto : GoodIn wsX3_digest wsX2_hashedInto := goodIn_r _ [212, 213, 214, 215, 216, 217, 211, 218, 219, 242, 243, 244] (by decide +kernel) (by decide +kernel)
set_option maxRecDepth 20000 in
theorem gX3_digest_X2_hashedInto : GoodIn wsX3_digest (wsV RX3 302 RX2 yX2_hashedInto wsX2_hashedInto) := goodIn_app (goodIn_of _ (by decide +kernel)) ggX3_digest_X2_hashedInto
theorem dX3_digest_0 : decode cX3_digest 0 = .ok (.ldc2_w 275, 3) := by decide +kernel
theorem dX3_digest_3 : decode cX3_digest 3 = .ok (.lstore_n 1, 1) := by decide +kernel
theorem dX3_digest_4 : decode cX3_digest 4 = .ok (.iconst 0, 1) := by decide +kernel
theorem dX3_digest_5 : decode cX3_digest 5 = .ok (.istore_n 3, 1) := by decide +kernel
theorem dX3_digest_6 : decode cX3_digest 6 = .ok (.iload_n 3, 1) := by decide +kernel
theorem dX3_digest_7 : decode cX3_digest 7 = .ok (.bipush 6, 2) := by decide +kernel
theorem dX3_digest_9 : decode cX3_digest 9 = .ok (.if_icmp .gt 22, 3) := by decide +kernel
theorem dX3_digest_12 : decode cX3_digest 12 = .ok (.ldc2_w 277, 3) := by decide +kernel
theorem dX3_digest_15 : decode cX3_digest 15 = .ok (.lload_n 1, 1) := by decide +kernel
theorem dX3_digest_16 : decode cX3_digest 16 = .ok (.lmul, 1) := by decide +kernel
theorem dX3_digest_17 : decode cX3_digest 17 = .ok (.aload_n 0, 1) := by decide +kernel
theorem dX3_digest_18 : decode cX3_digest 18 = .ok (.iload_n 3, 1) := by decide +kernel
theorem dX3_digest_19 : decode cX3_digest 19 = .ok (.invokevirtual 279, 3) := by decide +kernel
theorem dX3_digest_22 : decode cX3_digest 22 = .ok (.i2l, 1) := by decide +kernel
theorem dX3_digest_23 : decode cX3_digest 23 = .ok (.ladd, 1) := by decide +kernel
theorem dX3_digest_24 : decode cX3_digest 24 = .ok (.lstore_n 1, 1) := by decide +kernel
theorem dX3_digest_25 : decode cX3_digest 25 = .ok (.iinc 3 1, 3) := by decide +kernel
theorem dX3_digest_28 : decode cX3_digest 28 = .ok (.goto (-22), 3) := by decide +kernel
theorem dX3_digest_31 : decode cX3_digest 31 = .ok (.ldc2_w 277, 3) := by decide +kernel
theorem dX3_digest_34 : decode cX3_digest 34 = .ok (.lload_n 1, 1) := by decide +kernel
theorem dX3_digest_35 : decode cX3_digest 35 = .ok (.lmul, 1) := by decide +kernel
theorem dX3_digest_36 : decode cX3_digest 36 = .ok (.aload_n 0, 1) := by decide +kernel
theorem dX3_digest_37 : decode cX3_digest 37 = .ok (.iconst 0, 1) := by decide +kernel
theorem dX3_digest_38 : decode cX3_digest 38 = .ok (.invokevirtual 153, 3) := by decide +kernel
theorem dX3_digest_41 : decode cX3_digest 41 = .ok (.i2l, 1) := by decide +kernel
theorem dX3_digest_42 : decode cX3_digest 42 = .ok (.ladd, 1) := by decide +kernel
theorem dX3_digest_43 : decode cX3_digest 43 = .ok (.lstore_n 1, 1) := by decide +kernel
theorem dX3_digest_44 : decode cX3_digest 44 = .ok (.ldc2_w 277, 3) := by decide +kernel
theorem dX3_digest_47 : decode cX3_digest 47 = .ok (.lload_n 1, 1) := by decide +kernel
theorem dX3_digest_48 : decode cX3_digest 48 = .ok (.lmul, 1) := by decide +kernel
theorem dX3_digest_49 : decode cX3_digest 49 = .ok (.aload_n 0, 1) := by decide +kernel
theorem dX3_digest_50 : decode cX3_digest 50 = .ok (.iconst 1, 1) := by decide +kernel
theorem dX3_digest_51 : decode cX3_digest 51 = .ok (.invokevirtual 153, 3) := by decide +kernel
theorem dX3_digest_54 : decode cX3_digest 54 = .ok (.i2l, 1) := by decide +kernel
theorem dX3_digest_55 : decode cX3_digest 55 = .ok (.ladd, 1) := by decide +kernel
theorem dX3_digest_56 : decode cX3_digest 56 = .ok (.lstore_n 1, 1) := by decide +kernel
theorem dX3_digest_57 : decode cX3_digest 57 = .ok (.iconst 0, 1) := by decide +kernel
theorem dX3_digest_58 : decode cX3_digest 58 = .ok (.istore_n 3, 1) := by decide +kernel
theorem dX3_digest_59 : decode cX3_digest 59 = .ok (.iload_n 3, 1) := by decide +kernel
theorem dX3_digest_60 : decode cX3_digest 60 = .ok (.bipush 16, 2) := by decide +kernel
theorem dX3_digest_62 : decode cX3_digest 62 = .ok (.if_icmp .ge 27, 3) := by decide +kernel
theorem dX3_digest_65 : decode cX3_digest 65 = .ok (.aload_n 0, 1) := by decide +kernel
theorem dX3_digest_66 : decode cX3_digest 66 = .ok (.getfield 12, 3) := by decide +kernel
theorem dX3_digest_69 : decode cX3_digest 69 = .ok (.iload_n 3, 1) := by decide +kernel
theorem dX3_digest_70 : decode cX3_digest 70 = .ok (.invokevirtual 85, 3) := by decide +kernel
theorem dX3_digest_73 : decode cX3_digest 73 = .ok (.ifCond .eq 10, 3) := by decide +kernel
theorem dX3_digest_76 : decode cX3_digest 76 = .ok (.aload_n 0, 1) := by decide +kernel
theorem dX3_digest_77 : decode cX3_digest 77 = .ok (.lload_n 1, 1) := by decide +kernel
theorem dX3_digest_78 : decode cX3_digest 78 = .ok (.iload_n 3, 1) := by decide +kernel
theorem dX3_digest_79 : decode cX3_digest 79 = .ok (.invokevirtual 282, 3) := by decide +kernel
theorem dX3_digest_82 : decode cX3_digest 82 = .ok (.lstore_n 1, 1) := by decide +kernel
theorem dX3_digest_83 : decode cX3_digest 83 = .ok (.iinc 3 1, 3) := by decide +kernel
theorem dX3_digest_86 : decode cX3_digest 86 = .ok (.goto (-27), 3) := by decide +kernel
theorem dX3_digest_89 : decode cX3_digest 89 = .ok (.iconst 1, 1) := by decide +kernel
theorem dX3_digest_90 : decode cX3_digest 90 = .ok (.istore_n 3, 1) := by decide +kernel
theorem dX3_digest_91 : decode cX3_digest 91 = .ok (.iload_n 3, 1) := by decide +kernel
theorem dX3_digest_92 : decode cX3_digest 92 = .ok (.bipush 15, 2) := by decide +kernel
theorem dX3_digest_94 : decode cX3_digest 94 = .ok (.if_icmp .gt 39, 3) := by decide +kernel
theorem dX3_digest_97 : decode cX3_digest 97 = .ok (.iconst 0, 1) := by decide +kernel
theorem dX3_digest_98 : decode cX3_digest 98 = .ok (.istore 4, 2) := by decide +kernel
theorem dX3_digest_100 : decode cX3_digest 100 = .ok (.iload 4, 2) := by decide +kernel
theorem dX3_digest_102 : decode cX3_digest 102 = .ok (.iconst 5, 1) := by decide +kernel
theorem dX3_digest_103 : decode cX3_digest 103 = .ok (.if_icmp .gt 24, 3) := by decide +kernel
theorem dX3_digest_106 : decode cX3_digest 106 = .ok (.ldc2_w 277, 3) := by decide +kernel
theorem dX3_digest_109 : decode cX3_digest 109 = .ok (.lload_n 1, 1) := by decide +kernel
theorem dX3_digest_110 : decode cX3_digest 110 = .ok (.lmul, 1) := by decide +kernel
theorem dX3_digest_111 : decode cX3_digest 111 = .ok (.aload_n 0, 1) := by decide +kernel
theorem dX3_digest_112 : decode cX3_digest 112 = .ok (.iload_n 3, 1) := by decide +kernel
theorem dX3_digest_113 : decode cX3_digest 113 = .ok (.iload 4, 2) := by decide +kernel
theorem dX3_digest_115 : decode cX3_digest 115 = .ok (.invokevirtual 286, 3) := by decide +kernel
theorem dX3_digest_118 : decode cX3_digest 118 = .ok (.i2l, 1) := by decide +kernel
theorem dX3_digest_119 : decode cX3_digest 119 = .ok (.ladd, 1) := by decide +kernel
theorem dX3_digest_120 : decode cX3_digest 120 = .ok (.lstore_n 1, 1) := by decide +kernel
theorem dX3_digest_121 : decode cX3_digest 121 = .ok (.iinc 4 1, 3) := by decide +kernel
theorem dX3_digest_124 : decode cX3_digest 124 = .ok (.goto (-24), 3) := by decide +kernel
theorem dX3_digest_127 : decode cX3_digest 127 = .ok (.iinc 3 1, 3) := by decide +kernel
theorem dX3_digest_130 : decode cX3_digest 130 = .ok (.goto (-39), 3) := by decide +kernel
theorem dX3_digest_133 : decode cX3_digest 133 = .ok (.iconst 0, 1) := by decide +kernel
theorem dX3_digest_134 : decode cX3_digest 134 = .ok (.istore_n 3, 1) := by decide +kernel
theorem dX3_digest_135 : decode cX3_digest 135 = .ok (.iload_n 3, 1) := by decide +kernel
theorem dX3_digest_136 : decode cX3_digest 136 = .ok (.iconst 3, 1) := by decide +kernel
theorem dX3_digest_137 : decode cX3_digest 137 = .ok (.if_icmp .gt 22, 3) := by decide +kernel
theorem dX3_digest_140 : decode cX3_digest 140 = .ok (.ldc2_w 277, 3) := by decide +kernel
theorem dX3_digest_143 : decode cX3_digest 143 = .ok (.lload_n 1, 1) := by decide +kernel
theorem dX3_digest_144 : decode cX3_digest 144 = .ok (.lmul, 1) := by decide +kernel
theorem dX3_digest_145 : decode cX3_digest 145 = .ok (.aload_n 0, 1) := by decide +kernel
theorem dX3_digest_146 : decode cX3_digest 146 = .ok (.iload_n 3, 1) := by decide +kernel
theorem dX3_digest_147 : decode cX3_digest 147 = .ok (.invokevirtual 289, 3) := by decide +kernel
theorem dX3_digest_150 : decode cX3_digest 150 = .ok (.i2l, 1) := by decide +kernel
theorem dX3_digest_151 : decode cX3_digest 151 = .ok (.ladd, 1) := by decide +kernel
theorem dX3_digest_152 : decode cX3_digest 152 = .ok (.lstore_n 1, 1) := by decide +kernel
theorem dX3_digest_153 : decode cX3_digest 153 = .ok (.iinc 3 1, 3) := by decide +kernel
theorem dX3_digest_156 : decode cX3_digest 156 = .ok (.goto (-21), 3) := by decide +kernel
theorem dX3_digest_159 : decode cX3_digest 159 = .ok (.aload_n 0, 1) := by decide +kernel
theorem dX3_digest_160 : decode cX3_digest 160 = .ok (.lload_n 1, 1) := by decide +kernel
theorem dX3_digest_161 : decode cX3_digest 161 = .ok (.invokevirtual 292, 3) := by decide +kernel
theorem dX3_digest_164 : decode cX3_digest 164 = .ok (.lstore_n 1, 1) := by decide +kernel
theorem dX3_digest_165 : decode cX3_digest 165 = .ok (.ldc2_w 277, 3) := by decide +kernel
theorem dX3_digest_168 : decode cX3_digest 168 = .ok (.lload_n 1, 1) := by decide +kernel
theorem dX3_digest_169 : decode cX3_digest 169 = .ok (.lmul, 1) := by decide +kernel
theorem dX3_digest_170 : decode cX3_digest 170 = .ok (.aload_n 0, 1) := by decide +kernel
theorem dX3_digest_171 : decode cX3_digest 171 = .ok (.aload_n 0, 1) := by decide +kernel
theorem dX3_digest_172 : decode cX3_digest 172 = .ok (.getfield 12, 3) := by decide +kernel
theorem dX3_digest_175 : decode cX3_digest 175 = .ok (.getfield 159, 3) := by decide +kernel
theorem dX3_digest_178 : decode cX3_digest 178 = .ok (.invokevirtual 296, 3) := by decide +kernel
theorem dX3_digest_181 : decode cX3_digest 181 = .ok (.i2l, 1) := by decide +kernel
theorem dX3_digest_182 : decode cX3_digest 182 = .ok (.ladd, 1) := by decide +kernel
theorem dX3_digest_183 : decode cX3_digest 183 = .ok (.lstore_n 1, 1) := by decide +kernel
theorem dX3_digest_184 : decode cX3_digest 184 = .ok (.ldc2_w 277, 3) := by decide +kernel
theorem dX3_digest_187 : decode cX3_digest 187 = .ok (.lload_n 1, 1) := by decide +kernel
theorem dX3_digest_188 : decode cX3_digest 188 = .ok (.lmul, 1) := by decide +kernel
theorem dX3_digest_189 : decode cX3_digest 189 = .ok (.aload_n 0, 1) := by decide +kernel
theorem dX3_digest_190 : decode cX3_digest 190 = .ok (.aload_n 0, 1) := by decide +kernel
theorem dX3_digest_191 : decode cX3_digest 191 = .ok (.getfield 12, 3) := by decide +kernel
theorem dX3_digest_194 : decode cX3_digest 194 = .ok (.getfield 159, 3) := by decide +kernel
theorem dX3_digest_197 : decode cX3_digest 197 = .ok (.invokevirtual 299, 3) := by decide +kernel
theorem dX3_digest_200 : decode cX3_digest 200 = .ok (.i2l, 1) := by decide +kernel
theorem dX3_digest_201 : decode cX3_digest 201 = .ok (.ladd, 1) := by decide +kernel
theorem dX3_digest_202 : decode cX3_digest 202 = .ok (.lstore_n 1, 1) := by decide +kernel
theorem dX3_digest_203 : decode cX3_digest 203 = .ok (.aload_n 0, 1) := by decide +kernel
theorem dX3_digest_204 : decode cX3_digest 204 = .ok (.getfield 47, 3) := by decide +kernel
theorem dX3_digest_207 : decode cX3_digest 207 = .ok (.lload_n 1, 1) := by decide +kernel
theorem dX3_digest_208 : decode cX3_digest 208 = .ok (.invokevirtual 302, 3) := by decide +kernel
theorem dX3_digest_211 : decode cX3_digest 211 = .ok (.lreturn, 1) := by decide +kernel
set_option maxRecDepth 20000 in
theorem ggX3_withMover_X3_mover : GoodIn wsX3_withMover wsX3_mover := goodIn_ca (goodIn_ca (goodIn_r _ [6, 7, 8, 9, 10, 11, 12, 13, 14, 15, 16, 17, 18, 19, 20, 21, 22, 23, 24, 25, 26, 27, 28, 29, 30, 31, 32, 33, 34, 35, 36, 37, 38, 39, 40, 41, 42, 43, 44, 45, 46, 47, 48, 49, 50, 51, 5, 52, 53, 54, 55, 56, 57, 58, 59, 60, 61, 62, 63, 64, 65, 66, 67, 68, 69, 70, 71, 72, 73, 74, 75, 76, 77, 78, 79, 80, 81, 82, 83, 84, 85, 86, 87, 88, 89, 90, 91, 131, 132, 133, 134, 135, 136, 137, 138, 139, 140, 141, 142, 143, 144, 145, 146, 147, 148, 149, 150, 151, 152] (by decide +kernel) (by decide +kernel)) (goodIn_sub (fun _ h => List.mem_cons_of_mem _ (List.mem_append_left _ (List.mem_append_right _ h))) (by decide +kernel))) (goodIn_sub (fun _ h => List.mem_cons_of_mem _ (List.mem_append_right _ h)) (by decide +kernel))
set_option maxRecDepth 20000 in
theorem gX3_withMover_X3_mover : GoodIn wsX3_withMover (wsV RX3 305 RX3 yX3_mover wsX3_mover) := goodIn_app (goodIn_of _ (by decide +kernel)) ggX3_withMover_X3_mover
set_option maxRecDepth 20000 in
theorem ggX3_withMover_X3_leastSpeed : GoodIn wsX3_withMover wsX3_leastSpeed := goodIn_ca (goodIn_ca (goodIn_r _ [95, 7, 8, 9, 10, 11, 14, 15, 16, 17, 18, 19, 96, 97, 5, 98, 99, 100, 101, 102, 103, 38, 26, 27, 28, 29, 39, 40, 41, 42, 43, 21, 22, 23, 24, 44, 45, 46, 47, 48, 104, 105, 106, 107, 108, 109, 110, 111, 112, 131, 132, 133, 134, 135, 136, 137, 138, 139, 140, 141, 142, 143, 144, 145, 146] (by decide +kernel) (by decide +kernel)) (goodIn_sub (fun _ h => List.mem_cons_of_mem _ (List.mem_append_left _ (List.mem_append_right _ h))) (by decide +kernel))) (goodIn_sub (fun _ h => List.mem_cons_of_mem _ (List.mem_append_right _ h)) (by decide +kernel))
set_option maxRecDepth 20000 in
theorem gX3_withMover_X3_leastSpeed : GoodIn wsX3_withMover (wsV RX3 308 RX3 yX3_leastSpeed wsX3_leastSpeed) := goodIn_app (goodIn_of _ (by decide +kernel)) ggX3_withMover_X3_leastSpeed
set_option maxRecDepth 20000 in
theorem ggX3_withMover_X3_leadShare : GoodIn wsX3_withMover wsX3_leadShare := goodIn_ca (goodIn_r _ [116, 7, 8, 11, 12, 117, 13, 118, 14, 15, 16, 17, 18, 19, 73, 74, 75, 65, 76, 72, 67, 119, 120, 121, 122, 123, 84, 85, 86, 81, 68, 69, 70, 71, 124, 78, 79, 80, 82, 131, 132, 133, 134, 135, 136, 137, 138, 139, 140, 141, 142, 143, 144, 145, 146, 147, 148, 149, 150, 151, 152] (by decide +kernel) (by decide +kernel)) (goodIn_sub (fun _ h => List.mem_cons_of_mem _ (List.mem_append_left _ (List.mem_append_right _ h))) (by decide +kernel))
set_option maxRecDepth 20000 in
theorem gX3_withMover_X3_leadShare : GoodIn wsX3_withMover (wsV RX3 311 RX3 yX3_leadShare wsX3_leadShare) := goodIn_app (goodIn_of _ (by decide +kernel)) ggX3_withMover_X3_leadShare
set_option maxRecDepth 20000 in
theorem ggX3_withMover_X3_bitsOfShare : GoodIn wsX3_withMover wsX3_bitsOfShare := goodIn_r _ [127, 128, 129, 130] (by decide +kernel) (by decide +kernel)
set_option maxRecDepth 20000 in
theorem gX3_withMover_X3_bitsOfShare : GoodIn wsX3_withMover (va_wsS RX3 315 yX3_bitsOfShare wsX3_bitsOfShare) := goodIn_app (goodIn_of _ (by decide +kernel)) ggX3_withMover_X3_bitsOfShare
theorem dX3_withMover_0 : decode cX3_withMover 0 = .ok (.ldc2_w 277, 3) := by decide +kernel
theorem dX3_withMover_3 : decode cX3_withMover 3 = .ok (.lload_n 1, 1) := by decide +kernel
theorem dX3_withMover_4 : decode cX3_withMover 4 = .ok (.lmul, 1) := by decide +kernel
theorem dX3_withMover_5 : decode cX3_withMover 5 = .ok (.iload_n 3, 1) := by decide +kernel
theorem dX3_withMover_6 : decode cX3_withMover 6 = .ok (.i2l, 1) := by decide +kernel
theorem dX3_withMover_7 : decode cX3_withMover 7 = .ok (.ladd, 1) := by decide +kernel
theorem dX3_withMover_8 : decode cX3_withMover 8 = .ok (.lstore 4, 2) := by decide +kernel
theorem dX3_withMover_10 : decode cX3_withMover 10 = .ok (.iconst 0, 1) := by decide +kernel
theorem dX3_withMover_11 : decode cX3_withMover 11 = .ok (.istore 6, 2) := by decide +kernel
theorem dX3_withMover_13 : decode cX3_withMover 13 = .ok (.iload 6, 2) := by decide +kernel
theorem dX3_withMover_15 : decode cX3_withMover 15 = .ok (.bipush 6, 2) := by decide +kernel
theorem dX3_withMover_17 : decode cX3_withMover 17 = .ok (.if_icmp .gt 26, 3) := by decide +kernel
theorem dX3_withMover_20 : decode cX3_withMover 20 = .ok (.ldc2_w 277, 3) := by decide +kernel
theorem dX3_withMover_23 : decode cX3_withMover 23 = .ok (.lload 4, 2) := by decide +kernel
theorem dX3_withMover_25 : decode cX3_withMover 25 = .ok (.lmul, 1) := by decide +kernel
theorem dX3_withMover_26 : decode cX3_withMover 26 = .ok (.aload_n 0, 1) := by decide +kernel
theorem dX3_withMover_27 : decode cX3_withMover 27 = .ok (.iload_n 3, 1) := by decide +kernel
theorem dX3_withMover_28 : decode cX3_withMover 28 = .ok (.iload 6, 2) := by decide +kernel
theorem dX3_withMover_30 : decode cX3_withMover 30 = .ok (.invokevirtual 305, 3) := by decide +kernel
theorem dX3_withMover_33 : decode cX3_withMover 33 = .ok (.i2l, 1) := by decide +kernel
theorem dX3_withMover_34 : decode cX3_withMover 34 = .ok (.ladd, 1) := by decide +kernel
theorem dX3_withMover_35 : decode cX3_withMover 35 = .ok (.lstore 4, 2) := by decide +kernel
theorem dX3_withMover_37 : decode cX3_withMover 37 = .ok (.iinc 6 1, 3) := by decide +kernel
theorem dX3_withMover_40 : decode cX3_withMover 40 = .ok (.goto (-27), 3) := by decide +kernel
theorem dX3_withMover_43 : decode cX3_withMover 43 = .ok (.ldc2_w 277, 3) := by decide +kernel
theorem dX3_withMover_46 : decode cX3_withMover 46 = .ok (.lload 4, 2) := by decide +kernel
theorem dX3_withMover_48 : decode cX3_withMover 48 = .ok (.lmul, 1) := by decide +kernel
theorem dX3_withMover_49 : decode cX3_withMover 49 = .ok (.aload_n 0, 1) := by decide +kernel
theorem dX3_withMover_50 : decode cX3_withMover 50 = .ok (.iload_n 3, 1) := by decide +kernel
theorem dX3_withMover_51 : decode cX3_withMover 51 = .ok (.bipush 10, 2) := by decide +kernel
theorem dX3_withMover_53 : decode cX3_withMover 53 = .ok (.invokevirtual 308, 3) := by decide +kernel
theorem dX3_withMover_56 : decode cX3_withMover 56 = .ok (.i2l, 1) := by decide +kernel
theorem dX3_withMover_57 : decode cX3_withMover 57 = .ok (.ladd, 1) := by decide +kernel
theorem dX3_withMover_58 : decode cX3_withMover 58 = .ok (.lstore 4, 2) := by decide +kernel
theorem dX3_withMover_60 : decode cX3_withMover 60 = .ok (.ldc2_w 277, 3) := by decide +kernel
theorem dX3_withMover_63 : decode cX3_withMover 63 = .ok (.lload 4, 2) := by decide +kernel
theorem dX3_withMover_65 : decode cX3_withMover 65 = .ok (.lmul, 1) := by decide +kernel
theorem dX3_withMover_66 : decode cX3_withMover 66 = .ok (.aload_n 0, 1) := by decide +kernel
theorem dX3_withMover_67 : decode cX3_withMover 67 = .ok (.iload_n 3, 1) := by decide +kernel
theorem dX3_withMover_68 : decode cX3_withMover 68 = .ok (.invokevirtual 311, 3) := by decide +kernel
theorem dX3_withMover_71 : decode cX3_withMover 71 = .ok (.invokestatic 315, 3) := by decide +kernel
theorem dX3_withMover_74 : decode cX3_withMover 74 = .ok (.ladd, 1) := by decide +kernel
theorem dX3_withMover_75 : decode cX3_withMover 75 = .ok (.lreturn, 1) := by decide +kernel
set_option maxRecDepth 20000 in
theorem ggX3_withSpans_X3_span : GoodIn wsX3_withSpans wsX3_span := goodIn_ca (goodIn_r _ [8, 9, 10, 1, 2, 11, 12, 13, 14, 7, 15, 16, 17, 18, 19, 20, 21, 22, 23, 24, 25, 26, 27, 28, 29, 30, 31, 32, 33, 34, 35, 36, 37, 38, 39, 40, 41, 42, 43, 44, 45, 46, 47, 48, 49, 50, 51, 52, 53, 54, 55, 56, 57, 58] (by decide +kernel) (by decide +kernel)) (goodIn_sub (fun _ h => List.mem_cons_of_mem _ (List.mem_append_right _ h)) (by decide +kernel))
set_option maxRecDepth 20000 in
theorem gX3_withSpans_X3_span : GoodIn wsX3_withSpans (wsV RX3 319 RX3 yX3_span wsX3_span) := goodIn_app (goodIn_of _ (by decide +kernel)) ggX3_withSpans_X3_span
theorem dX3_withSpans_0 : decode cX3_withSpans 0 = .ok (.lload_n 1, 1) := by decide +kernel
theorem dX3_withSpans_1 : decode cX3_withSpans 1 = .ok (.lstore_n 3, 1) := by decide +kernel
theorem dX3_withSpans_2 : decode cX3_withSpans 2 = .ok (.iconst 0, 1) := by decide +kernel
theorem dX3_withSpans_3 : decode cX3_withSpans 3 = .ok (.istore 5, 2) := by decide +kernel
theorem dX3_withSpans_5 : decode cX3_withSpans 5 = .ok (.iload 5, 2) := by decide +kernel
theorem dX3_withSpans_7 : decode cX3_withSpans 7 = .ok (.aload_n 0, 1) := by decide +kernel
theorem dX3_withSpans_8 : decode cX3_withSpans 8 = .ok (.getfield 32, 3) := by decide +kernel
theorem dX3_withSpans_11 : decode cX3_withSpans 11 = .ok (.getfield 244, 3) := by decide +kernel
theorem dX3_withSpans_14 : decode cX3_withSpans 14 = .ok (.if_icmp .ge 40, 3) := by decide +kernel
theorem dX3_withSpans_17 : decode cX3_withSpans 17 = .ok (.iconst 0, 1) := by decide +kernel
theorem dX3_withSpans_18 : decode cX3_withSpans 18 = .ok (.istore 6, 2) := by decide +kernel
theorem dX3_withSpans_20 : decode cX3_withSpans 20 = .ok (.iload 6, 2) := by decide +kernel
theorem dX3_withSpans_22 : decode cX3_withSpans 22 = .ok (.iconst 2, 1) := by decide +kernel
theorem dX3_withSpans_23 : decode cX3_withSpans 23 = .ok (.if_icmp .gt 25, 3) := by decide +kernel
theorem dX3_withSpans_26 : decode cX3_withSpans 26 = .ok (.ldc2_w 277, 3) := by decide +kernel
theorem dX3_withSpans_29 : decode cX3_withSpans 29 = .ok (.lload_n 3, 1) := by decide +kernel
theorem dX3_withSpans_30 : decode cX3_withSpans 30 = .ok (.lmul, 1) := by decide +kernel
theorem dX3_withSpans_31 : decode cX3_withSpans 31 = .ok (.aload_n 0, 1) := by decide +kernel
theorem dX3_withSpans_32 : decode cX3_withSpans 32 = .ok (.iload 5, 2) := by decide +kernel
theorem dX3_withSpans_34 : decode cX3_withSpans 34 = .ok (.iload 6, 2) := by decide +kernel
theorem dX3_withSpans_36 : decode cX3_withSpans 36 = .ok (.invokevirtual 319, 3) := by decide +kernel
theorem dX3_withSpans_39 : decode cX3_withSpans 39 = .ok (.i2l, 1) := by decide +kernel
theorem dX3_withSpans_40 : decode cX3_withSpans 40 = .ok (.ladd, 1) := by decide +kernel
theorem dX3_withSpans_41 : decode cX3_withSpans 41 = .ok (.lstore_n 3, 1) := by decide +kernel
theorem dX3_withSpans_42 : decode cX3_withSpans 42 = .ok (.iinc 6 1, 3) := by decide +kernel
theorem dX3_withSpans_45 : decode cX3_withSpans 45 = .ok (.goto (-25), 3) := by decide +kernel
theorem dX3_withSpans_48 : decode cX3_withSpans 48 = .ok (.iinc 5 1, 3) := by decide +kernel
theorem dX3_withSpans_51 : decode cX3_withSpans 51 = .ok (.goto (-46), 3) := by decide +kernel
theorem dX3_withSpans_54 : decode cX3_withSpans 54 = .ok (.lload_n 3, 1) := by decide +kernel
theorem dX3_withSpans_55 : decode cX3_withSpans 55 = .ok (.lreturn, 1) := by decide +kernel
theorem dX3_bitsOfShare_0 : decode cX3_bitsOfShare 0 = .ok (.dload_n 0, 1) := by decide +kernel
theorem dX3_bitsOfShare_1 : decode cX3_bitsOfShare 1 = .ok (.dconst 0, 1) := by decide +kernel
theorem dX3_bitsOfShare_2 : decode cX3_bitsOfShare 2 = .ok (.dcmp .g, 1) := by decide +kernel
theorem dX3_bitsOfShare_3 : decode cX3_bitsOfShare 3 = .ok (.ifCond .gt 5, 3) := by decide +kernel
theorem dX3_bitsOfShare_6 : decode cX3_bitsOfShare 6 = .ok (.lconst 0, 1) := by decide +kernel
theorem dX3_bitsOfShare_7 : decode cX3_bitsOfShare 7 = .ok (.lreturn, 1) := by decide +kernel
theorem dX3_bitsOfShare_8 : decode cX3_bitsOfShare 8 = .ok (.dload_n 0, 1) := by decide +kernel
theorem dX3_bitsOfShare_9 : decode cX3_bitsOfShare 9 = .ok (.dstore_n 2, 1) := by decide +kernel
theorem dX3_bitsOfShare_10 : decode cX3_bitsOfShare 10 = .ok (.ldc2_w 322, 3) := by decide +kernel
theorem dX3_bitsOfShare_13 : decode cX3_bitsOfShare 13 = .ok (.lstore 4, 2) := by decide +kernel
theorem dX3_bitsOfShare_15 : decode cX3_bitsOfShare 15 = .ok (.iconst 0, 1) := by decide +kernel
theorem dX3_bitsOfShare_16 : decode cX3_bitsOfShare 16 = .ok (.istore 6, 2) := by decide +kernel
theorem dX3_bitsOfShare_18 : decode cX3_bitsOfShare 18 = .ok (.iload 6, 2) := by decide +kernel
theorem dX3_bitsOfShare_20 : decode cX3_bitsOfShare 20 = .ok (.sipush 1023, 3) := by decide +kernel
theorem dX3_bitsOfShare_23 : decode cX3_bitsOfShare 23 = .ok (.if_icmp .ge 27, 3) := by decide +kernel
theorem dX3_bitsOfShare_26 : decode cX3_bitsOfShare 26 = .ok (.dload_n 2, 1) := by decide +kernel
theorem dX3_bitsOfShare_27 : decode cX3_bitsOfShare 27 = .ok (.dconst 1, 1) := by decide +kernel
theorem dX3_bitsOfShare_28 : decode cX3_bitsOfShare 28 = .ok (.dcmp .g, 1) := by decide +kernel
theorem dX3_bitsOfShare_29 : decode cX3_bitsOfShare 29 = .ok (.ifCond .ge 21, 3) := by decide +kernel
theorem dX3_bitsOfShare_32 : decode cX3_bitsOfShare 32 = .ok (.dload_n 2, 1) := by decide +kernel
theorem dX3_bitsOfShare_33 : decode cX3_bitsOfShare 33 = .ok (.ldc2_w 324, 3) := by decide +kernel
theorem dX3_bitsOfShare_36 : decode cX3_bitsOfShare 36 = .ok (.dmul, 1) := by decide +kernel
theorem dX3_bitsOfShare_37 : decode cX3_bitsOfShare 37 = .ok (.dstore_n 2, 1) := by decide +kernel
theorem dX3_bitsOfShare_38 : decode cX3_bitsOfShare 38 = .ok (.lload 4, 2) := by decide +kernel
theorem dX3_bitsOfShare_40 : decode cX3_bitsOfShare 40 = .ok (.lconst 1, 1) := by decide +kernel
theorem dX3_bitsOfShare_41 : decode cX3_bitsOfShare 41 = .ok (.lsub, 1) := by decide +kernel
theorem dX3_bitsOfShare_42 : decode cX3_bitsOfShare 42 = .ok (.lstore 4, 2) := by decide +kernel
theorem dX3_bitsOfShare_44 : decode cX3_bitsOfShare 44 = .ok (.iinc 6 1, 3) := by decide +kernel
theorem dX3_bitsOfShare_47 : decode cX3_bitsOfShare 47 = .ok (.goto (-29), 3) := by decide +kernel
theorem dX3_bitsOfShare_50 : decode cX3_bitsOfShare 50 = .ok (.lload 4, 2) := by decide +kernel
theorem dX3_bitsOfShare_52 : decode cX3_bitsOfShare 52 = .ok (.bipush 52, 2) := by decide +kernel
theorem dX3_bitsOfShare_54 : decode cX3_bitsOfShare 54 = .ok (.lshl, 1) := by decide +kernel
theorem dX3_bitsOfShare_55 : decode cX3_bitsOfShare 55 = .ok (.dload_n 2, 1) := by decide +kernel
theorem dX3_bitsOfShare_56 : decode cX3_bitsOfShare 56 = .ok (.dconst 1, 1) := by decide +kernel
theorem dX3_bitsOfShare_57 : decode cX3_bitsOfShare 57 = .ok (.dsub, 1) := by decide +kernel
theorem dX3_bitsOfShare_58 : decode cX3_bitsOfShare 58 = .ok (.ldc2_w 326, 3) := by decide +kernel
theorem dX3_bitsOfShare_61 : decode cX3_bitsOfShare 61 = .ok (.dmul, 1) := by decide +kernel
theorem dX3_bitsOfShare_62 : decode cX3_bitsOfShare 62 = .ok (.d2l, 1) := by decide +kernel
theorem dX3_bitsOfShare_63 : decode cX3_bitsOfShare 63 = .ok (.ladd, 1) := by decide +kernel
theorem dX3_bitsOfShare_64 : decode cX3_bitsOfShare 64 = .ok (.lreturn, 1) := by decide +kernel
set_option maxRecDepth 20000 in
theorem ggX3_save_X3_latestSaved : GoodIn wsX3_save wsX3_latestSaved := goodIn_r _ [8, 2, 1, 9, 23, 24, 25, 26, 27, 28, 29, 30] (by decide +kernel) (by decide +kernel)
set_option maxRecDepth 20000 in
theorem gX3_save_X3_latestSaved : GoodIn wsX3_save (wsV RX3 199 RX3 yX3_latestSaved wsX3_latestSaved) := goodIn_app (goodIn_of _ (by decide +kernel)) ggX3_save_X3_latestSaved
set_option maxRecDepth 20000 in
theorem ggX3_save_X1_copyFrom : GoodIn wsX3_save wsX1_copyFrom := goodIn_r _ [14, 15, 16, 17, 18, 19, 20, 21, 22, 31, 32, 33, 34, 35, 36, 37, 38] (by decide +kernel) (by decide +kernel)
set_option maxRecDepth 20000 in
theorem gX3_save_X1_copyFrom : GoodIn wsX3_save (wsV RX3 203 RX1 yX1_copyFrom wsX1_copyFrom) := goodIn_app (goodIn_of _ (by decide +kernel)) ggX3_save_X1_copyFrom
theorem dX3_save_0 : decode cX3_save 0 = .ok (.aload_n 0, 1) := by decide +kernel
theorem dX3_save_1 : decode cX3_save 1 = .ok (.getfield 24, 3) := by decide +kernel
theorem dX3_save_4 : decode cX3_save 4 = .ok (.bipush 6, 2) := by decide +kernel
theorem dX3_save_6 : decode cX3_save 6 = .ok (.if_icmp .ge 16, 3) := by decide +kernel
theorem dX3_save_9 : decode cX3_save 9 = .ok (.aload_n 0, 1) := by decide +kernel
theorem dX3_save_10 : decode cX3_save 10 = .ok (.dup, 1) := by decide +kernel
theorem dX3_save_11 : decode cX3_save 11 = .ok (.getfield 24, 3) := by decide +kernel
theorem dX3_save_14 : decode cX3_save 14 = .ok (.iconst 1, 1) := by decide +kernel
theorem dX3_save_15 : decode cX3_save 15 = .ok (.iadd, 1) := by decide +kernel
theorem dX3_save_16 : decode cX3_save 16 = .ok (.putfield 24, 3) := by decide +kernel
theorem dX3_save_19 : decode cX3_save 19 = .ok (.goto 16, 3) := by decide +kernel
theorem dX3_save_22 : decode cX3_save 22 = .ok (.aload_n 0, 1) := by decide +kernel
theorem dX3_save_23 : decode cX3_save 23 = .ok (.aload_n 0, 1) := by decide +kernel
theorem dX3_save_24 : decode cX3_save 24 = .ok (.getfield 20, 3) := by decide +kernel
theorem dX3_save_27 : decode cX3_save 27 = .ok (.iconst 1, 1) := by decide +kernel
theorem dX3_save_28 : decode cX3_save 28 = .ok (.iadd, 1) := by decide +kernel
theorem dX3_save_29 : decode cX3_save 29 = .ok (.bipush 6, 2) := by decide +kernel
theorem dX3_save_31 : decode cX3_save 31 = .ok (.irem, 1) := by decide +kernel
theorem dX3_save_32 : decode cX3_save 32 = .ok (.putfield 20, 3) := by decide +kernel
theorem dX3_save_35 : decode cX3_save 35 = .ok (.aload_n 0, 1) := by decide +kernel
theorem dX3_save_36 : decode cX3_save 36 = .ok (.invokevirtual 199, 3) := by decide +kernel
theorem dX3_save_39 : decode cX3_save 39 = .ok (.astore_n 1, 1) := by decide +kernel
theorem dX3_save_40 : decode cX3_save 40 = .ok (.aload_n 1, 1) := by decide +kernel
theorem dX3_save_41 : decode cX3_save 41 = .ok (.ifnull 11, 3) := by decide +kernel
theorem dX3_save_44 : decode cX3_save 44 = .ok (.aload_n 1, 1) := by decide +kernel
theorem dX3_save_45 : decode cX3_save 45 = .ok (.aload_n 0, 1) := by decide +kernel
theorem dX3_save_46 : decode cX3_save 46 = .ok (.getfield 12, 3) := by decide +kernel
theorem dX3_save_49 : decode cX3_save 49 = .ok (.invokevirtual 203, 3) := by decide +kernel
theorem dX3_save_52 : decode cX3_save 52 = .ok (.return_, 1) := by decide +kernel
theorem dX3_latestSaved_0 : decode cX3_latestSaved 0 = .ok (.aload_n 0, 1) := by decide +kernel
theorem dX3_latestSaved_1 : decode cX3_latestSaved 1 = .ok (.getfield 20, 3) := by decide +kernel
theorem dX3_latestSaved_4 : decode cX3_latestSaved 4 = .ok (.aload_n 0, 1) := by decide +kernel
theorem dX3_latestSaved_5 : decode cX3_latestSaved 5 = .ok (.getfield 24, 3) := by decide +kernel
theorem dX3_latestSaved_8 : decode cX3_latestSaved 8 = .ok (.iadd, 1) := by decide +kernel
theorem dX3_latestSaved_9 : decode cX3_latestSaved 9 = .ok (.iconst 1, 1) := by decide +kernel
theorem dX3_latestSaved_10 : decode cX3_latestSaved 10 = .ok (.isub, 1) := by decide +kernel
theorem dX3_latestSaved_11 : decode cX3_latestSaved 11 = .ok (.bipush 6, 2) := by decide +kernel
theorem dX3_latestSaved_13 : decode cX3_latestSaved 13 = .ok (.irem, 1) := by decide +kernel
theorem dX3_latestSaved_14 : decode cX3_latestSaved 14 = .ok (.istore_n 1, 1) := by decide +kernel
theorem dX3_latestSaved_15 : decode cX3_latestSaved 15 = .ok (.iload_n 1, 1) := by decide +kernel
theorem dX3_latestSaved_16 : decode cX3_latestSaved 16 = .ok (.ifCond .lt 18, 3) := by decide +kernel
theorem dX3_latestSaved_19 : decode cX3_latestSaved 19 = .ok (.iload_n 1, 1) := by decide +kernel
theorem dX3_latestSaved_20 : decode cX3_latestSaved 20 = .ok (.bipush 6, 2) := by decide +kernel
theorem dX3_latestSaved_22 : decode cX3_latestSaved 22 = .ok (.if_icmp .ge 12, 3) := by decide +kernel
theorem dX3_latestSaved_25 : decode cX3_latestSaved 25 = .ok (.aload_n 0, 1) := by decide +kernel
theorem dX3_latestSaved_26 : decode cX3_latestSaved 26 = .ok (.getfield 16, 3) := by decide +kernel
theorem dX3_latestSaved_29 : decode cX3_latestSaved 29 = .ok (.iload_n 1, 1) := by decide +kernel
theorem dX3_latestSaved_30 : decode cX3_latestSaved 30 = .ok (.aaload, 1) := by decide +kernel
theorem dX3_latestSaved_31 : decode cX3_latestSaved 31 = .ok (.goto 4, 3) := by decide +kernel
theorem dX3_latestSaved_34 : decode cX3_latestSaved 34 = .ok (.aconst_null, 1) := by decide +kernel
theorem dX3_latestSaved_35 : decode cX3_latestSaved 35 = .ok (.areturn, 1) := by decide +kernel
set_option maxRecDepth 20000 in
theorem ggX3_foresee_X3_courseOf : GoodIn wsX3_foresee wsX3_courseOf := goodIn_r _ [6, 7, 8, 66, 67, 68, 69, 70, 71, 72, 73] (by decide +kernel) (by decide +kernel)
set_option maxRecDepth 20000 in
theorem gX3_foresee_X3_courseOf : GoodIn wsX3_foresee (wsV RX3 142 RX3 yX3_courseOf wsX3_courseOf) := goodIn_app (goodIn_of _ (by decide +kernel)) ggX3_foresee_X3_courseOf
set_option maxRecDepth 20000 in
theorem ggX3_foresee_X0_follow : GoodIn wsX3_foresee wsX0_follow := goodIn_r _ [13, 14, 15, 16, 17, 18, 19, 20, 21, 22, 23, 24, 25, 26, 27, 28, 29, 30, 31, 32, 33, 34, 35, 36, 37, 38, 39, 40, 41, 42, 43, 44, 45, 46, 47, 48, 12, 49, 50, 51, 52, 53, 54, 55, 56, 57, 58, 59, 60, 61, 62, 63, 64, 5, 65, 74, 75, 76, 77, 78, 79, 80, 81, 82, 83, 84, 85, 86, 87] (by decide +kernel) (by decide +kernel)
set_option maxRecDepth 20000 in
theorem gX3_foresee_X0_follow : GoodIn wsX3_foresee (wsV RX3 328 RX0 yX0_follow wsX0_follow) := goodIn_app (goodIn_of _ (by decide +kernel)) ggX3_foresee_X0_follow
theorem dX3_foresee_0 : decode cX3_foresee 0 = .ok (.iconst 1, 1) := by decide +kernel
theorem dX3_foresee_1 : decode cX3_foresee 1 = .ok (.istore_n 1, 1) := by decide +kernel
theorem dX3_foresee_2 : decode cX3_foresee 2 = .ok (.iload_n 1, 1) := by decide +kernel
theorem dX3_foresee_3 : decode cX3_foresee 3 = .ok (.bipush 15, 2) := by decide +kernel
theorem dX3_foresee_5 : decode cX3_foresee 5 = .ok (.if_icmp .gt 21, 3) := by decide +kernel
theorem dX3_foresee_8 : decode cX3_foresee 8 = .ok (.aload_n 0, 1) := by decide +kernel
theorem dX3_foresee_9 : decode cX3_foresee 9 = .ok (.iload_n 1, 1) := by decide +kernel
theorem dX3_foresee_10 : decode cX3_foresee 10 = .ok (.invokevirtual 142, 3) := by decide +kernel
theorem dX3_foresee_13 : decode cX3_foresee 13 = .ok (.aload_n 0, 1) := by decide +kernel
theorem dX3_foresee_14 : decode cX3_foresee 14 = .ok (.getfield 12, 3) := by decide +kernel
theorem dX3_foresee_17 : decode cX3_foresee 17 = .ok (.invokevirtual 328, 3) := by decide +kernel
theorem dX3_foresee_20 : decode cX3_foresee 20 = .ok (.iinc 1 1, 3) := by decide +kernel
theorem dX3_foresee_23 : decode cX3_foresee 23 = .ok (.goto (-21), 3) := by decide +kernel
theorem dX3_foresee_26 : decode cX3_foresee 26 = .ok (.return_, 1) := by decide +kernel
theorem dX3_courseOf_0 : decode cX3_courseOf 0 = .ok (.iload_n 1, 1) := by decide +kernel
theorem dX3_courseOf_1 : decode cX3_courseOf 1 = .ok (.iconst 1, 1) := by decide +kernel
theorem dX3_courseOf_2 : decode cX3_courseOf 2 = .ok (.if_icmp .lt 9, 3) := by decide +kernel
theorem dX3_courseOf_5 : decode cX3_courseOf 5 = .ok (.iload_n 1, 1) := by decide +kernel
theorem dX3_courseOf_6 : decode cX3_courseOf 6 = .ok (.bipush 15, 2) := by decide +kernel
theorem dX3_courseOf_8 : decode cX3_courseOf 8 = .ok (.if_icmp .le 8, 3) := by decide +kernel
theorem dX3_courseOf_11 : decode cX3_courseOf 11 = .ok (.aload_n 0, 1) := by decide +kernel
theorem dX3_courseOf_12 : decode cX3_courseOf 12 = .ok (.getfield 32, 3) := by decide +kernel
theorem dX3_courseOf_15 : decode cX3_courseOf 15 = .ok (.areturn, 1) := by decide +kernel
theorem dX3_courseOf_16 : decode cX3_courseOf 16 = .ok (.aload_n 0, 1) := by decide +kernel
theorem dX3_courseOf_17 : decode cX3_courseOf 17 = .ok (.getfield 36, 3) := by decide +kernel
theorem dX3_courseOf_20 : decode cX3_courseOf 20 = .ok (.iload_n 1, 1) := by decide +kernel
theorem dX3_courseOf_21 : decode cX3_courseOf 21 = .ok (.aaload, 1) := by decide +kernel
theorem dX3_courseOf_22 : decode cX3_courseOf 22 = .ok (.astore_n 2, 1) := by decide +kernel
theorem dX3_courseOf_23 : decode cX3_courseOf 23 = .ok (.aload_n 2, 1) := by decide +kernel
theorem dX3_courseOf_24 : decode cX3_courseOf 24 = .ok (.ifnonnull 10, 3) := by decide +kernel
theorem dX3_courseOf_27 : decode cX3_courseOf 27 = .ok (.aload_n 0, 1) := by decide +kernel
theorem dX3_courseOf_28 : decode cX3_courseOf 28 = .ok (.getfield 32, 3) := by decide +kernel
theorem dX3_courseOf_31 : decode cX3_courseOf 31 = .ok (.goto 4, 3) := by decide +kernel
theorem dX3_courseOf_34 : decode cX3_courseOf 34 = .ok (.aload_n 2, 1) := by decide +kernel
theorem dX3_courseOf_35 : decode cX3_courseOf 35 = .ok (.areturn, 1) := by decide +kernel
set_option maxRecDepth 20000 in
theorem ggX3_winnerOf_X3_courseOf : GoodIn wsX3_winnerOf wsX3_courseOf := goodIn_r _ [5, 6, 7, 19, 20, 21, 22, 23, 24, 25, 26] (by decide +kernel) (by decide +kernel)
set_option maxRecDepth 20000 in
theorem gX3_winnerOf_X3_courseOf : GoodIn wsX3_winnerOf (wsV RX3 142 RX3 yX3_courseOf wsX3_courseOf) := goodIn_app (goodIn_of _ (by decide +kernel)) ggX3_winnerOf_X3_courseOf
set_option maxRecDepth 20000 in
theorem ggX3_winnerOf_X0_winnerIn : GoodIn wsX3_winnerOf wsX0_winnerIn := goodIn_r _ [12, 13, 14, 15, 16, 11, 17, 18, 27, 28, 29, 30, 31, 32] (by decide +kernel) (by decide +kernel)
set_option maxRecDepth 20000 in
theorem gX3_winnerOf_X0_winnerIn : GoodIn wsX3_winnerOf (wsV RX3 230 RX0 yX0_winnerIn wsX0_winnerIn) := goodIn_app (goodIn_of _ (by decide +kernel)) ggX3_winnerOf_X0_winnerIn
theorem dX3_winnerOf_0 : decode cX3_winnerOf 0 = .ok (.aload_n 0, 1) := by decide +kernel
theorem dX3_winnerOf_1 : decode cX3_winnerOf 1 = .ok (.iload_n 1, 1) := by decide +kernel
theorem dX3_winnerOf_2 : decode cX3_winnerOf 2 = .ok (.invokevirtual 142, 3) := by decide +kernel
theorem dX3_winnerOf_5 : decode cX3_winnerOf 5 = .ok (.iconst 0, 1) := by decide +kernel
theorem dX3_winnerOf_6 : decode cX3_winnerOf 6 = .ok (.invokevirtual 230, 3) := by decide +kernel
theorem dX3_winnerOf_9 : decode cX3_winnerOf 9 = .ok (.ireturn, 1) := by decide +kernel
set_option maxRecDepth 20000 in
theorem ggX3_loserOf_X3_comingFrom : GoodIn wsX3_loserOf wsX3_comingFrom := goodIn_r _ [5, 6, 7, 8, 9, 4, 10, 11, 12, 13, 14, 15, 16, 17, 18, 19, 20, 21, 22, 23, 24, 25, 26, 27, 28, 29, 30, 31, 32, 33, 34, 35, 36, 37, 38, 39, 40, 41, 42, 43, 44, 45, 46, 47, 48, 49, 50, 51, 52, 53, 54, 55] (by decide +kernel) (by decide +kernel)
set_option maxRecDepth 20000 in
theorem gX3_loserOf_X3_comingFrom : GoodIn wsX3_loserOf (wsV RX3 331 RX3 yX3_comingFrom wsX3_comingFrom) := goodIn_app (goodIn_of _ (by decide +kernel)) ggX3_loserOf_X3_comingFrom
set_option maxRecDepth 20000 in
theorem ggX3_loserOf_X3_winnerOf : GoodIn wsX3_loserOf wsX3_winnerOf := goodIn_r _ [10, 11, 12, 13, 4, 14, 15, 16, 17, 18, 19, 20, 21, 22, 23, 24, 25, 26, 27, 34, 35, 36, 37, 38, 39, 40, 41, 42, 43, 44, 45, 46, 47] (by decide +kernel) (by decide +kernel)
set_option maxRecDepth 20000 in
theorem gX3_loserOf_X3_winnerOf : GoodIn wsX3_loserOf (wsV RX3 123 RX3 yX3_winnerOf wsX3_winnerOf) := goodIn_app (goodIn_of _ (by decide +kernel)) ggX3_loserOf_X3_winnerOf
theorem dX3_loserOf_0 : decode cX3_loserOf 0 = .ok (.aload_n 0, 1) := by decide +kernel
theorem dX3_loserOf_1 : decode cX3_loserOf 1 = .ok (.iload_n 1, 1) := by decide +kernel
theorem dX3_loserOf_2 : decode cX3_loserOf 2 = .ok (.iconst 0, 1) := by decide +kernel
theorem dX3_loserOf_3 : decode cX3_loserOf 3 = .ok (.invokevirtual 331, 3) := by decide +kernel
theorem dX3_loserOf_6 : decode cX3_loserOf 6 = .ok (.istore_n 2, 1) := by decide +kernel
theorem dX3_loserOf_7 : decode cX3_loserOf 7 = .ok (.aload_n 0, 1) := by decide +kernel
theorem dX3_loserOf_8 : decode cX3_loserOf 8 = .ok (.iload_n 1, 1) := by decide +kernel
theorem dX3_loserOf_9 : decode cX3_loserOf 9 = .ok (.iconst 1, 1) := by decide +kernel
theorem dX3_loserOf_10 : decode cX3_loserOf 10 = .ok (.invokevirtual 331, 3) := by decide +kernel
theorem dX3_loserOf_13 : decode cX3_loserOf 13 = .ok (.istore_n 3, 1) := by decide +kernel
theorem dX3_loserOf_14 : decode cX3_loserOf 14 = .ok (.iload_n 2, 1) := by decide +kernel
theorem dX3_loserOf_15 : decode cX3_loserOf 15 = .ok (.iconst (-1), 1) := by decide +kernel
theorem dX3_loserOf_16 : decode cX3_loserOf 16 = .ok (.if_icmp .eq 8, 3) := by decide +kernel
theorem dX3_loserOf_19 : decode cX3_loserOf 19 = .ok (.iload_n 3, 1) := by decide +kernel
theorem dX3_loserOf_20 : decode cX3_loserOf 20 = .ok (.iconst (-1), 1) := by decide +kernel
theorem dX3_loserOf_21 : decode cX3_loserOf 21 = .ok (.if_icmp .ne 5, 3) := by decide +kernel
theorem dX3_loserOf_24 : decode cX3_loserOf 24 = .ok (.iconst (-1), 1) := by decide +kernel
theorem dX3_loserOf_25 : decode cX3_loserOf 25 = .ok (.ireturn, 1) := by decide +kernel
theorem dX3_loserOf_26 : decode cX3_loserOf 26 = .ok (.aload_n 0, 1) := by decide +kernel
theorem dX3_loserOf_27 : decode cX3_loserOf 27 = .ok (.iload_n 1, 1) := by decide +kernel
theorem dX3_loserOf_28 : decode cX3_loserOf 28 = .ok (.invokevirtual 123, 3) := by decide +kernel
theorem dX3_loserOf_31 : decode cX3_loserOf 31 = .ok (.iload_n 2, 1) := by decide +kernel
theorem dX3_loserOf_32 : decode cX3_loserOf 32 = .ok (.if_icmp .ne 7, 3) := by decide +kernel
theorem dX3_loserOf_35 : decode cX3_loserOf 35 = .ok (.iload_n 3, 1) := by decide +kernel
theorem dX3_loserOf_36 : decode cX3_loserOf 36 = .ok (.goto 4, 3) := by decide +kernel
theorem dX3_loserOf_39 : decode cX3_loserOf 39 = .ok (.iload_n 2, 1) := by decide +kernel
theorem dX3_loserOf_40 : decode cX3_loserOf 40 = .ok (.ireturn, 1) := by decide +kernel
set_option maxRecDepth 20000 in
theorem ggX3_comingFrom_X3_winnerOf : GoodIn wsX3_comingFrom wsX3_winnerOf := goodIn_r _ [6, 7, 8, 9, 5, 10, 11, 12, 13, 14, 15, 16, 17, 18, 19, 20, 21, 22, 23, 30, 31, 32, 33, 34, 35, 36, 37, 38, 39, 40, 41, 42, 43] (by decide +kernel) (by decide +kernel)
set_option maxRecDepth 20000 in
theorem gX3_comingFrom_X3_winnerOf : GoodIn wsX3_comingFrom (wsV RX3 123 RX3 yX3_winnerOf wsX3_winnerOf) := goodIn_app (goodIn_of _ (by decide +kernel)) ggX3_comingFrom_X3_winnerOf
set_option maxRecDepth 20000 in
theorem ggX3_comingFrom_X1_has : GoodIn wsX3_comingFrom wsX1_has := goodIn_r _ [28, 29, 44, 45, 46, 47, 48, 49, 50, 51] (by decide +kernel) (by decide +kernel)
set_option maxRecDepth 20000 in
theorem gX3_comingFrom_X1_has : GoodIn wsX3_comingFrom (wsV RX3 85 RX1 yX1_has wsX1_has) := goodIn_app (goodIn_of _ (by decide +kernel)) ggX3_comingFrom_X1_has
theorem dX3_comingFrom_0 : decode cX3_comingFrom 0 = .ok (.iload_n 1, 1) := by decide +kernel
theorem dX3_comingFrom_1 : decode cX3_comingFrom 1 = .ok (.bipush 8, 2) := by decide +kernel
theorem dX3_comingFrom_3 : decode cX3_comingFrom 3 = .ok (.if_icmp .ge 13, 3) := by decide +kernel
theorem dX3_comingFrom_6 : decode cX3_comingFrom 6 = .ok (.aload_n 0, 1) := by decide +kernel
theorem dX3_comingFrom_7 : decode cX3_comingFrom 7 = .ok (.iconst 2, 1) := by decide +kernel
theorem dX3_comingFrom_8 : decode cX3_comingFrom 8 = .ok (.iload_n 1, 1) := by decide +kernel
theorem dX3_comingFrom_9 : decode cX3_comingFrom 9 = .ok (.imul, 1) := by decide +kernel
theorem dX3_comingFrom_10 : decode cX3_comingFrom 10 = .ok (.iload_n 2, 1) := by decide +kernel
theorem dX3_comingFrom_11 : decode cX3_comingFrom 11 = .ok (.iadd, 1) := by decide +kernel
theorem dX3_comingFrom_12 : decode cX3_comingFrom 12 = .ok (.invokevirtual 123, 3) := by decide +kernel
theorem dX3_comingFrom_15 : decode cX3_comingFrom 15 = .ok (.ireturn, 1) := by decide +kernel
theorem dX3_comingFrom_16 : decode cX3_comingFrom 16 = .ok (.iconst 2, 1) := by decide +kernel
theorem dX3_comingFrom_17 : decode cX3_comingFrom 17 = .ok (.iload_n 1, 1) := by decide +kernel
theorem dX3_comingFrom_18 : decode cX3_comingFrom 18 = .ok (.bipush 8, 2) := by decide +kernel
theorem dX3_comingFrom_20 : decode cX3_comingFrom 20 = .ok (.isub, 1) := by decide +kernel
theorem dX3_comingFrom_21 : decode cX3_comingFrom 21 = .ok (.imul, 1) := by decide +kernel
theorem dX3_comingFrom_22 : decode cX3_comingFrom 22 = .ok (.iload_n 2, 1) := by decide +kernel
theorem dX3_comingFrom_23 : decode cX3_comingFrom 23 = .ok (.iadd, 1) := by decide +kernel
theorem dX3_comingFrom_24 : decode cX3_comingFrom 24 = .ok (.istore_n 3, 1) := by decide +kernel
theorem dX3_comingFrom_25 : decode cX3_comingFrom 25 = .ok (.aload_n 0, 1) := by decide +kernel
theorem dX3_comingFrom_26 : decode cX3_comingFrom 26 = .ok (.getfield 12, 3) := by decide +kernel
theorem dX3_comingFrom_29 : decode cX3_comingFrom 29 = .ok (.iload_n 3, 1) := by decide +kernel
theorem dX3_comingFrom_30 : decode cX3_comingFrom 30 = .ok (.invokevirtual 85, 3) := by decide +kernel
theorem dX3_comingFrom_33 : decode cX3_comingFrom 33 = .ok (.ifCond .eq 7, 3) := by decide +kernel
theorem dX3_comingFrom_36 : decode cX3_comingFrom 36 = .ok (.iload_n 3, 1) := by decide +kernel
theorem dX3_comingFrom_37 : decode cX3_comingFrom 37 = .ok (.goto 4, 3) := by decide +kernel
theorem dX3_comingFrom_40 : decode cX3_comingFrom 40 = .ok (.iconst (-1), 1) := by decide +kernel
theorem dX3_comingFrom_41 : decode cX3_comingFrom 41 = .ok (.ireturn, 1) := by decide +kernel
