set_option maxRecDepth 20000 in
theorem gX3_contest_X1_turnedOf : GoodIn wsX3_contest (wsV RX3 236 RX1 yX1_turnedOf wsX1_turnedOf) := goodIn_app (goodIn_of _ (by decide +kernel)) ggX3_contest_X1_turnedOf
theorem dX3_contest_0 : decode cX3_contest 0 = .ok (.iload_n 1, 1) := by decide +kernel
theorem dX3_contest_1 : decode cX3_contest 1 = .ok (.iconst 1, 1) := by decide +kernel
theorem dX3_contest_2 : decode cX3_contest 2 = .ok (.bipush 15, 2) := by decide +kernel
theorem dX3_contest_4 : decode cX3_contest 4 = .ok (.invokestatic 51, 3) := by decide +kernel
theorem dX3_contest_7 : decode cX3_contest 7 = .ok (.ifCond .ne 13, 3) := by decide +kernel
theorem dX3_contest_10 : decode cX3_contest 10 = .ok (.new 88, 3) := by decide +kernel
theorem dX3_contest_13 : decode cX3_contest 13 = .ok (.dup, 1) := by decide +kernel
theorem dX3_contest_14 : decode cX3_contest 14 = .ok (.ldc 228, 2) := by decide +kernel
theorem dX3_contest_16 : decode cX3_contest 16 = .ok (.invokespecial 92, 3) := by decide +kernel
theorem dX3_contest_19 : decode cX3_contest 19 = .ok (.athrow, 1) := by decide +kernel
theorem dX3_contest_20 : decode cX3_contest 20 = .ok (.aload_n 0, 1) := by decide +kernel
theorem dX3_contest_21 : decode cX3_contest 21 = .ok (.iload_n 1, 1) := by decide +kernel
theorem dX3_contest_22 : decode cX3_contest 22 = .ok (.invokevirtual 142, 3) := by decide +kernel
theorem dX3_contest_25 : decode cX3_contest 25 = .ok (.astore_n 3, 1) := by decide +kernel
theorem dX3_contest_26 : decode cX3_contest 26 = .ok (.iload_n 2, 1) := by decide +kernel
theorem dX3_contest_27 : decode cX3_contest 27 = .ok (.tableswitch 83 0 5 #[37, 43, 49, 62, 68, 74], 37) := by decide +kernel
theorem dX3_contest_64 : decode cX3_contest 64 = .ok (.aload_n 3, 1) := by decide +kernel
theorem dX3_contest_65 : decode cX3_contest 65 = .ok (.iconst 0, 1) := by decide +kernel
theorem dX3_contest_66 : decode cX3_contest 66 = .ok (.invokevirtual 230, 3) := by decide +kernel
theorem dX3_contest_69 : decode cX3_contest 69 = .ok (.ireturn, 1) := by decide +kernel
theorem dX3_contest_70 : decode cX3_contest 70 = .ok (.aload_n 0, 1) := by decide +kernel
theorem dX3_contest_71 : decode cX3_contest 71 = .ok (.iload_n 1, 1) := by decide +kernel
theorem dX3_contest_72 : decode cX3_contest 72 = .ok (.invokevirtual 233, 3) := by decide +kernel
theorem dX3_contest_75 : decode cX3_contest 75 = .ok (.ireturn, 1) := by decide +kernel
theorem dX3_contest_76 : decode cX3_contest 76 = .ok (.aload_n 3, 1) := by decide +kernel
theorem dX3_contest_77 : decode cX3_contest 77 = .ok (.iconst 1, 1) := by decide +kernel
theorem dX3_contest_78 : decode cX3_contest 78 = .ok (.aload_n 0, 1) := by decide +kernel
theorem dX3_contest_79 : decode cX3_contest 79 = .ok (.getfield 12, 3) := by decide +kernel
theorem dX3_contest_82 : decode cX3_contest 82 = .ok (.getfield 129, 3) := by decide +kernel
theorem dX3_contest_85 : decode cX3_contest 85 = .ok (.invokevirtual 216, 3) := by decide +kernel
theorem dX3_contest_88 : decode cX3_contest 88 = .ok (.ireturn, 1) := by decide +kernel
theorem dX3_contest_89 : decode cX3_contest 89 = .ok (.aload_n 3, 1) := by decide +kernel
theorem dX3_contest_90 : decode cX3_contest 90 = .ok (.iconst 1, 1) := by decide +kernel
theorem dX3_contest_91 : decode cX3_contest 91 = .ok (.invokevirtual 220, 3) := by decide +kernel
theorem dX3_contest_94 : decode cX3_contest 94 = .ok (.ireturn, 1) := by decide +kernel
theorem dX3_contest_95 : decode cX3_contest 95 = .ok (.aload_n 3, 1) := by decide +kernel
theorem dX3_contest_96 : decode cX3_contest 96 = .ok (.iconst 1, 1) := by decide +kernel
theorem dX3_contest_97 : decode cX3_contest 97 = .ok (.invokevirtual 230, 3) := by decide +kernel
theorem dX3_contest_100 : decode cX3_contest 100 = .ok (.ireturn, 1) := by decide +kernel
theorem dX3_contest_101 : decode cX3_contest 101 = .ok (.aload_n 0, 1) := by decide +kernel
theorem dX3_contest_102 : decode cX3_contest 102 = .ok (.getfield 12, 3) := by decide +kernel
theorem dX3_contest_105 : decode cX3_contest 105 = .ok (.iload_n 1, 1) := by decide +kernel
theorem dX3_contest_106 : decode cX3_contest 106 = .ok (.invokevirtual 236, 3) := by decide +kernel
theorem dX3_contest_109 : decode cX3_contest 109 = .ok (.ireturn, 1) := by decide +kernel
theorem dX3_contest_110 : decode cX3_contest 110 = .ok (.new 59, 3) := by decide +kernel
theorem dX3_contest_113 : decode cX3_contest 113 = .ok (.dup, 1) := by decide +kernel
theorem dX3_contest_114 : decode cX3_contest 114 = .ok (.ldc 226, 2) := by decide +kernel
theorem dX3_contest_116 : decode cX3_contest 116 = .ok (.invokespecial 63, 3) := by decide +kernel
theorem dX3_contest_119 : decode cX3_contest 119 = .ok (.athrow, 1) := by decide +kernel
set_option maxRecDepth 20000 in
theorem ggX3_nextTurn_X3_firstToTurn : GoodIn wsX3_nextTurn wsX3_firstToTurn := goodIn_r _ [9, 10, 11, 12, 13, 8, 14, 15, 16, 17, 18, 19, 20, 21, 22, 23, 24, 25, 26, 27, 28, 29, 30, 31, 32, 33, 34, 35, 36, 59, 60, 61, 62, 63, 64, 43, 44, 45, 46, 47, 48, 49, 50] (by decide +kernel) (by decide +kernel)
set_option maxRecDepth 20000 in
theorem gX3_nextTurn_X3_firstToTurn : GoodIn wsX3_nextTurn (wsV RX3 137 RX3 yX3_firstToTurn wsX3_firstToTurn) := goodIn_app (goodIn_of _ (by decide +kernel)) ggX3_nextTurn_X3_firstToTurn
set_option maxRecDepth 20000 in
theorem ggX3_nextTurn_X3_courseOf : GoodIn wsX3_nextTurn wsX3_courseOf := goodIn_r _ [14, 15, 16, 43, 44, 45, 46, 47, 48, 49, 50] (by decide +kernel) (by decide +kernel)
set_option maxRecDepth 20000 in
theorem gX3_nextTurn_X3_courseOf : GoodIn wsX3_nextTurn (wsV RX3 142 RX3 yX3_courseOf wsX3_courseOf) := goodIn_app (goodIn_of _ (by decide +kernel)) ggX3_nextTurn_X3_courseOf
set_option maxRecDepth 20000 in
theorem ggX3_nextTurn_X0_numerator : GoodIn wsX3_nextTurn wsX0_numerator := goodIn_r _ [25, 26, 27, 28, 29, 30, 20, 31, 32, 59, 60, 61, 62, 63, 64] (by decide +kernel) (by decide +kernel)
set_option maxRecDepth 20000 in
theorem gX3_nextTurn_X0_numerator : GoodIn wsX3_nextTurn (wsV RX3 216 RX0 yX0_numerator wsX0_numerator) := goodIn_app (goodIn_of _ (by decide +kernel)) ggX3_nextTurn_X0_numerator
set_option maxRecDepth 20000 in
theorem ggX3_nextTurn_X0_denominator : GoodIn wsX3_nextTurn wsX0_denominator := goodIn_r _ [36, 26, 28, 29, 30, 20, 31, 32, 59, 60, 61, 62, 63, 64] (by decide +kernel) (by decide +kernel)
set_option maxRecDepth 20000 in
theorem gX3_nextTurn_X0_denominator : GoodIn wsX3_nextTurn (wsV RX3 220 RX0 yX0_denominator wsX0_denominator) := goodIn_app (goodIn_of _ (by decide +kernel)) ggX3_nextTurn_X0_denominator
set_option maxRecDepth 20000 in
theorem ggX3_nextTurn_X3_turningWith : GoodIn wsX3_nextTurn wsX3_turningWith := goodIn_r _ [42, 10, 11, 12, 13, 8, 14, 15, 16, 17, 18, 19, 20, 21, 22, 23, 24, 25, 26, 27, 28, 29, 30, 31, 32, 33, 34, 35, 36, 59, 60, 61, 62, 63, 64, 43, 44, 45, 46, 47, 48, 49, 50] (by decide +kernel) (by decide +kernel)
set_option maxRecDepth 20000 in
theorem gX3_nextTurn_X3_turningWith : GoodIn wsX3_nextTurn (wsV RX3 239 RX3 yX3_turningWith wsX3_turningWith) := goodIn_app (goodIn_of _ (by decide +kernel)) ggX3_nextTurn_X3_turningWith
theorem dX3_nextTurn_0 : decode cX3_nextTurn 0 = .ok (.aload_n 0, 1) := by decide +kernel
theorem dX3_nextTurn_1 : decode cX3_nextTurn 1 = .ok (.invokevirtual 137, 3) := by decide +kernel
theorem dX3_nextTurn_4 : decode cX3_nextTurn 4 = .ok (.istore_n 2, 1) := by decide +kernel
theorem dX3_nextTurn_5 : decode cX3_nextTurn 5 = .ok (.iload_n 1, 1) := by decide +kernel
theorem dX3_nextTurn_6 : decode cX3_nextTurn 6 = .ok (.tableswitch 92 0 3 #[30, 56, 75, 90], 30) := by decide +kernel
theorem dX3_nextTurn_36 : decode cX3_nextTurn 36 = .ok (.iload_n 2, 1) := by decide +kernel
theorem dX3_nextTurn_37 : decode cX3_nextTurn 37 = .ok (.iconst (-1), 1) := by decide +kernel
theorem dX3_nextTurn_38 : decode cX3_nextTurn 38 = .ok (.if_icmp .ne 7, 3) := by decide +kernel
theorem dX3_nextTurn_41 : decode cX3_nextTurn 41 = .ok (.iconst 0, 1) := by decide +kernel
theorem dX3_nextTurn_42 : decode cX3_nextTurn 42 = .ok (.goto 19, 3) := by decide +kernel
theorem dX3_nextTurn_45 : decode cX3_nextTurn 45 = .ok (.aload_n 0, 1) := by decide +kernel
theorem dX3_nextTurn_46 : decode cX3_nextTurn 46 = .ok (.iload_n 2, 1) := by decide +kernel
theorem dX3_nextTurn_47 : decode cX3_nextTurn 47 = .ok (.invokevirtual 142, 3) := by decide +kernel
theorem dX3_nextTurn_50 : decode cX3_nextTurn 50 = .ok (.iconst 1, 1) := by decide +kernel
theorem dX3_nextTurn_51 : decode cX3_nextTurn 51 = .ok (.aload_n 0, 1) := by decide +kernel
theorem dX3_nextTurn_52 : decode cX3_nextTurn 52 = .ok (.getfield 12, 3) := by decide +kernel
theorem dX3_nextTurn_55 : decode cX3_nextTurn 55 = .ok (.getfield 129, 3) := by decide +kernel
theorem dX3_nextTurn_58 : decode cX3_nextTurn 58 = .ok (.invokevirtual 216, 3) := by decide +kernel
theorem dX3_nextTurn_61 : decode cX3_nextTurn 61 = .ok (.ireturn, 1) := by decide +kernel
theorem dX3_nextTurn_62 : decode cX3_nextTurn 62 = .ok (.iload_n 2, 1) := by decide +kernel
theorem dX3_nextTurn_63 : decode cX3_nextTurn 63 = .ok (.iconst (-1), 1) := by decide +kernel
theorem dX3_nextTurn_64 : decode cX3_nextTurn 64 = .ok (.if_icmp .ne 7, 3) := by decide +kernel
theorem dX3_nextTurn_67 : decode cX3_nextTurn 67 = .ok (.iconst 0, 1) := by decide +kernel
theorem dX3_nextTurn_68 : decode cX3_nextTurn 68 = .ok (.goto 12, 3) := by decide +kernel
theorem dX3_nextTurn_71 : decode cX3_nextTurn 71 = .ok (.aload_n 0, 1) := by decide +kernel
theorem dX3_nextTurn_72 : decode cX3_nextTurn 72 = .ok (.iload_n 2, 1) := by decide +kernel
theorem dX3_nextTurn_73 : decode cX3_nextTurn 73 = .ok (.invokevirtual 142, 3) := by decide +kernel
theorem dX3_nextTurn_76 : decode cX3_nextTurn 76 = .ok (.iconst 1, 1) := by decide +kernel
theorem dX3_nextTurn_77 : decode cX3_nextTurn 77 = .ok (.invokevirtual 220, 3) := by decide +kernel
theorem dX3_nextTurn_80 : decode cX3_nextTurn 80 = .ok (.ireturn, 1) := by decide +kernel
theorem dX3_nextTurn_81 : decode cX3_nextTurn 81 = .ok (.iload_n 2, 1) := by decide +kernel
theorem dX3_nextTurn_82 : decode cX3_nextTurn 82 = .ok (.iconst (-1), 1) := by decide +kernel
theorem dX3_nextTurn_83 : decode cX3_nextTurn 83 = .ok (.if_icmp .ne 7, 3) := by decide +kernel
theorem dX3_nextTurn_86 : decode cX3_nextTurn 86 = .ok (.iconst 0, 1) := by decide +kernel
theorem dX3_nextTurn_87 : decode cX3_nextTurn 87 = .ok (.goto 8, 3) := by decide +kernel
theorem dX3_nextTurn_90 : decode cX3_nextTurn 90 = .ok (.aload_n 0, 1) := by decide +kernel
theorem dX3_nextTurn_91 : decode cX3_nextTurn 91 = .ok (.iload_n 2, 1) := by decide +kernel
theorem dX3_nextTurn_92 : decode cX3_nextTurn 92 = .ok (.invokevirtual 239, 3) := by decide +kernel
theorem dX3_nextTurn_95 : decode cX3_nextTurn 95 = .ok (.ireturn, 1) := by decide +kernel
theorem dX3_nextTurn_96 : decode cX3_nextTurn 96 = .ok (.iload_n 2, 1) := by decide +kernel
theorem dX3_nextTurn_97 : decode cX3_nextTurn 97 = .ok (.ireturn, 1) := by decide +kernel
theorem dX3_nextTurn_98 : decode cX3_nextTurn 98 = .ok (.new 59, 3) := by decide +kernel
theorem dX3_nextTurn_101 : decode cX3_nextTurn 101 = .ok (.dup, 1) := by decide +kernel
theorem dX3_nextTurn_102 : decode cX3_nextTurn 102 = .ok (.ldc 226, 2) := by decide +kernel
theorem dX3_nextTurn_104 : decode cX3_nextTurn 104 = .ok (.invokespecial 63, 3) := by decide +kernel
theorem dX3_nextTurn_107 : decode cX3_nextTurn 107 = .ok (.athrow, 1) := by decide +kernel
set_option maxRecDepth 20000 in
theorem ggX3_span_X3_isWithin : GoodIn wsX3_span wsX3_isWithin := goodIn_r _ [10] (by decide +kernel) (by decide +kernel)
set_option maxRecDepth 20000 in
theorem gX3_span_X3_isWithin : GoodIn wsX3_span (va_wsS RX3 51 yX3_isWithin wsX3_isWithin) := goodIn_app (goodIn_of _ (by decide +kernel)) ggX3_span_X3_isWithin
set_option maxRecDepth 20000 in
theorem ggX3_span_X0_winnerIn : GoodIn wsX3_span wsX0_winnerIn := goodIn_r _ [15, 16, 17, 18, 19, 14, 20, 21, 40, 41, 42, 43, 44, 45] (by decide +kernel) (by decide +kernel)
set_option maxRecDepth 20000 in
theorem gX3_span_X0_winnerIn : GoodIn wsX3_span (wsV RX3 230 RX0 yX0_winnerIn wsX0_winnerIn) := goodIn_app (goodIn_of _ (by decide +kernel)) ggX3_span_X0_winnerIn
set_option maxRecDepth 20000 in
theorem ggX3_span_X0_numerator : GoodIn wsX3_span wsX0_numerator := goodIn_r _ [25, 26, 27, 17, 18, 19, 14, 20, 21, 40, 41, 42, 43, 44, 45] (by decide +kernel) (by decide +kernel)
set_option maxRecDepth 20000 in
theorem gX3_span_X0_numerator : GoodIn wsX3_span (wsV RX3 216 RX0 yX0_numerator wsX0_numerator) := goodIn_app (goodIn_of _ (by decide +kernel)) ggX3_span_X0_numerator
set_option maxRecDepth 20000 in
theorem ggX3_span_X0_denominator : GoodIn wsX3_span wsX0_denominator := goodIn_r _ [31, 26, 17, 18, 19, 14, 20, 21, 40, 41, 42, 43, 44, 45] (by decide +kernel) (by decide +kernel)
set_option maxRecDepth 20000 in
theorem gX3_span_X0_denominator : GoodIn wsX3_span (wsV RX3 220 RX0 yX0_denominator wsX0_denominator) := goodIn_app (goodIn_of _ (by decide +kernel)) ggX3_span_X0_denominator
theorem dX3_span_0 : decode cX3_span 0 = .ok (.iload_n 1, 1) := by decide +kernel
theorem dX3_span_1 : decode cX3_span 1 = .ok (.ifCond .lt 12, 3) := by decide +kernel
theorem dX3_span_4 : decode cX3_span 4 = .ok (.iload_n 2, 1) := by decide +kernel
theorem dX3_span_5 : decode cX3_span 5 = .ok (.iconst 0, 1) := by decide +kernel
theorem dX3_span_6 : decode cX3_span 6 = .ok (.iconst 2, 1) := by decide +kernel
theorem dX3_span_7 : decode cX3_span 7 = .ok (.invokestatic 51, 3) := by decide +kernel
theorem dX3_span_10 : decode cX3_span 10 = .ok (.ifCond .ne 13, 3) := by decide +kernel
theorem dX3_span_13 : decode cX3_span 13 = .ok (.new 59, 3) := by decide +kernel
theorem dX3_span_16 : decode cX3_span 16 = .ok (.dup, 1) := by decide +kernel
theorem dX3_span_17 : decode cX3_span 17 = .ok (.ldc 242, 2) := by decide +kernel
theorem dX3_span_19 : decode cX3_span 19 = .ok (.invokespecial 63, 3) := by decide +kernel
theorem dX3_span_22 : decode cX3_span 22 = .ok (.athrow, 1) := by decide +kernel
theorem dX3_span_23 : decode cX3_span 23 = .ok (.iload_n 1, 1) := by decide +kernel
theorem dX3_span_24 : decode cX3_span 24 = .ok (.aload_n 0, 1) := by decide +kernel
theorem dX3_span_25 : decode cX3_span 25 = .ok (.getfield 32, 3) := by decide +kernel
theorem dX3_span_28 : decode cX3_span 28 = .ok (.getfield 244, 3) := by decide +kernel
theorem dX3_span_31 : decode cX3_span 31 = .ok (.if_icmp .lt 5, 3) := by decide +kernel
theorem dX3_span_34 : decode cX3_span 34 = .ok (.iconst (-1), 1) := by decide +kernel
theorem dX3_span_35 : decode cX3_span 35 = .ok (.ireturn, 1) := by decide +kernel
theorem dX3_span_36 : decode cX3_span 36 = .ok (.iload_n 2, 1) := by decide +kernel
theorem dX3_span_37 : decode cX3_span 37 = .ok (.ifCond .ne 12, 3) := by decide +kernel
theorem dX3_span_40 : decode cX3_span 40 = .ok (.aload_n 0, 1) := by decide +kernel
theorem dX3_span_41 : decode cX3_span 41 = .ok (.getfield 32, 3) := by decide +kernel
theorem dX3_span_44 : decode cX3_span 44 = .ok (.iload_n 1, 1) := by decide +kernel
theorem dX3_span_45 : decode cX3_span 45 = .ok (.invokevirtual 230, 3) := by decide +kernel
theorem dX3_span_48 : decode cX3_span 48 = .ok (.ireturn, 1) := by decide +kernel
theorem dX3_span_49 : decode cX3_span 49 = .ok (.iload_n 2, 1) := by decide +kernel
theorem dX3_span_50 : decode cX3_span 50 = .ok (.iconst 1, 1) := by decide +kernel
theorem dX3_span_51 : decode cX3_span 51 = .ok (.if_icmp .ne 21, 3) := by decide +kernel
theorem dX3_span_54 : decode cX3_span 54 = .ok (.aload_n 0, 1) := by decide +kernel
theorem dX3_span_55 : decode cX3_span 55 = .ok (.getfield 32, 3) := by decide +kernel
theorem dX3_span_58 : decode cX3_span 58 = .ok (.iload_n 1, 1) := by decide +kernel
theorem dX3_span_59 : decode cX3_span 59 = .ok (.aload_n 0, 1) := by decide +kernel
theorem dX3_span_60 : decode cX3_span 60 = .ok (.getfield 12, 3) := by decide +kernel
theorem dX3_span_63 : decode cX3_span 63 = .ok (.getfield 129, 3) := by decide +kernel
theorem dX3_span_66 : decode cX3_span 66 = .ok (.invokevirtual 216, 3) := by decide +kernel
theorem dX3_span_69 : decode cX3_span 69 = .ok (.goto 11, 3) := by decide +kernel
theorem dX3_span_72 : decode cX3_span 72 = .ok (.aload_n 0, 1) := by decide +kernel
theorem dX3_span_73 : decode cX3_span 73 = .ok (.getfield 32, 3) := by decide +kernel
theorem dX3_span_76 : decode cX3_span 76 = .ok (.iload_n 1, 1) := by decide +kernel
theorem dX3_span_77 : decode cX3_span 77 = .ok (.invokevirtual 220, 3) := by decide +kernel
theorem dX3_span_80 : decode cX3_span 80 = .ok (.ireturn, 1) := by decide +kernel
set_option maxRecDepth 20000 in
theorem ggX3_count_X1_moverCount : GoodIn wsX3_count wsX1_moverCount := goodIn_r _ [12, 13, 34, 35, 36, 37, 38, 39, 40, 41] (by decide +kernel) (by decide +kernel)
set_option maxRecDepth 20000 in
theorem gX3_count_X1_moverCount : GoodIn wsX3_count (wsV RX3 183 RX1 yX1_moverCount wsX1_moverCount) := goodIn_app (goodIn_of _ (by decide +kernel)) ggX3_count_X1_moverCount
set_option maxRecDepth 20000 in
theorem ggX3_count_X1_allTurned : GoodIn wsX3_count wsX1_allTurned := goodIn_r _ [17, 18, 34, 35, 36, 37, 38, 39, 40, 41] (by decide +kernel) (by decide +kernel)
set_option maxRecDepth 20000 in
theorem gX3_count_X1_allTurned : GoodIn wsX3_count (wsV RX3 247 RX1 yX1_allTurned wsX1_allTurned) := goodIn_app (goodIn_of _ (by decide +kernel)) ggX3_count_X1_allTurned
set_option maxRecDepth 20000 in
theorem ggX3_count_X1_turnedOf : GoodIn wsX3_count wsX1_turnedOf := goodIn_r _ [22, 18, 23, 24, 25, 34, 35, 36, 37, 38, 39, 40, 41] (by decide +kernel) (by decide +kernel)
set_option maxRecDepth 20000 in
theorem gX3_count_X1_turnedOf : GoodIn wsX3_count (wsV RX3 236 RX1 yX1_turnedOf wsX1_turnedOf) := goodIn_app (goodIn_of _ (by decide +kernel)) ggX3_count_X1_turnedOf
theorem dX3_count_0 : decode cX3_count 0 = .ok (.iload_n 1, 1) := by decide +kernel
theorem dX3_count_1 : decode cX3_count 1 = .ok (.tableswitch 105 0 6 #[43, 51, 59, 67, 75, 84, 100], 43) := by decide +kernel
theorem dX3_count_44 : decode cX3_count 44 = .ok (.aload_n 0, 1) := by decide +kernel
theorem dX3_count_45 : decode cX3_count 45 = .ok (.getfield 12, 3) := by decide +kernel
theorem dX3_count_48 : decode cX3_count 48 = .ok (.getfield 129, 3) := by decide +kernel
theorem dX3_count_51 : decode cX3_count 51 = .ok (.ireturn, 1) := by decide +kernel
theorem dX3_count_52 : decode cX3_count 52 = .ok (.aload_n 0, 1) := by decide +kernel
theorem dX3_count_53 : decode cX3_count 53 = .ok (.getfield 12, 3) := by decide +kernel
theorem dX3_count_56 : decode cX3_count 56 = .ok (.invokevirtual 183, 3) := by decide +kernel
theorem dX3_count_59 : decode cX3_count 59 = .ok (.ireturn, 1) := by decide +kernel
theorem dX3_count_60 : decode cX3_count 60 = .ok (.aload_n 0, 1) := by decide +kernel
theorem dX3_count_61 : decode cX3_count 61 = .ok (.getfield 32, 3) := by decide +kernel
theorem dX3_count_64 : decode cX3_count 64 = .ok (.getfield 244, 3) := by decide +kernel
theorem dX3_count_67 : decode cX3_count 67 = .ok (.ireturn, 1) := by decide +kernel
theorem dX3_count_68 : decode cX3_count 68 = .ok (.aload_n 0, 1) := by decide +kernel
theorem dX3_count_69 : decode cX3_count 69 = .ok (.getfield 12, 3) := by decide +kernel
theorem dX3_count_72 : decode cX3_count 72 = .ok (.invokevirtual 247, 3) := by decide +kernel
theorem dX3_count_75 : decode cX3_count 75 = .ok (.ireturn, 1) := by decide +kernel
theorem dX3_count_76 : decode cX3_count 76 = .ok (.aload_n 0, 1) := by decide +kernel
theorem dX3_count_77 : decode cX3_count 77 = .ok (.getfield 12, 3) := by decide +kernel
theorem dX3_count_80 : decode cX3_count 80 = .ok (.iconst 1, 1) := by decide +kernel
theorem dX3_count_81 : decode cX3_count 81 = .ok (.invokevirtual 236, 3) := by decide +kernel
theorem dX3_count_84 : decode cX3_count 84 = .ok (.ireturn, 1) := by decide +kernel
theorem dX3_count_85 : decode cX3_count 85 = .ok (.aload_n 0, 1) := by decide +kernel
theorem dX3_count_86 : decode cX3_count 86 = .ok (.getfield 12, 3) := by decide +kernel
theorem dX3_count_89 : decode cX3_count 89 = .ok (.invokevirtual 183, 3) := by decide +kernel
theorem dX3_count_92 : decode cX3_count 92 = .ok (.aload_n 0, 1) := by decide +kernel
theorem dX3_count_93 : decode cX3_count 93 = .ok (.getfield 32, 3) := by decide +kernel
theorem dX3_count_96 : decode cX3_count 96 = .ok (.getfield 244, 3) := by decide +kernel
theorem dX3_count_99 : decode cX3_count 99 = .ok (.isub, 1) := by decide +kernel
theorem dX3_count_100 : decode cX3_count 100 = .ok (.ireturn, 1) := by decide +kernel
theorem dX3_count_101 : decode cX3_count 101 = .ok (.aload_n 0, 1) := by decide +kernel
theorem dX3_count_102 : decode cX3_count 102 = .ok (.getfield 24, 3) := by decide +kernel
theorem dX3_count_105 : decode cX3_count 105 = .ok (.ireturn, 1) := by decide +kernel
theorem dX3_count_106 : decode cX3_count 106 = .ok (.new 59, 3) := by decide +kernel
theorem dX3_count_109 : decode cX3_count 109 = .ok (.dup, 1) := by decide +kernel
theorem dX3_count_110 : decode cX3_count 110 = .ok (.ldc 250, 2) := by decide +kernel
theorem dX3_count_112 : decode cX3_count 112 = .ok (.invokespecial 63, 3) := by decide +kernel
theorem dX3_count_115 : decode cX3_count 115 = .ok (.athrow, 1) := by decide +kernel
theorem dX3_setting_0 : decode cX3_setting 0 = .ok (.iload_n 1, 1) := by decide +kernel
theorem dX3_setting_1 : decode cX3_setting 1 = .ok (.ifCond .eq 18, 3) := by decide +kernel
theorem dX3_setting_4 : decode cX3_setting 4 = .ok (.iload_n 1, 1) := by decide +kernel
theorem dX3_setting_5 : decode cX3_setting 5 = .ok (.iconst 1, 1) := by decide +kernel
theorem dX3_setting_6 : decode cX3_setting 6 = .ok (.if_icmp .eq 13, 3) := by decide +kernel
theorem dX3_setting_9 : decode cX3_setting 9 = .ok (.new 88, 3) := by decide +kernel
theorem dX3_setting_12 : decode cX3_setting 12 = .ok (.dup, 1) := by decide +kernel
theorem dX3_setting_13 : decode cX3_setting 13 = .ok (.ldc 149, 2) := by decide +kernel
theorem dX3_setting_15 : decode cX3_setting 15 = .ok (.invokespecial 92, 3) := by decide +kernel
theorem dX3_setting_18 : decode cX3_setting 18 = .ok (.athrow, 1) := by decide +kernel
theorem dX3_setting_19 : decode cX3_setting 19 = .ok (.iload_n 1, 1) := by decide +kernel
theorem dX3_setting_20 : decode cX3_setting 20 = .ok (.ifCond .ne 13, 3) := by decide +kernel
theorem dX3_setting_23 : decode cX3_setting 23 = .ok (.aload_n 0, 1) := by decide +kernel
theorem dX3_setting_24 : decode cX3_setting 24 = .ok (.getfield 12, 3) := by decide +kernel
theorem dX3_setting_27 : decode cX3_setting 27 = .ok (.getfield 156, 3) := by decide +kernel
theorem dX3_setting_30 : decode cX3_setting 30 = .ok (.goto 10, 3) := by decide +kernel
theorem dX3_setting_33 : decode cX3_setting 33 = .ok (.aload_n 0, 1) := by decide +kernel
theorem dX3_setting_34 : decode cX3_setting 34 = .ok (.getfield 12, 3) := by decide +kernel
theorem dX3_setting_37 : decode cX3_setting 37 = .ok (.getfield 159, 3) := by decide +kernel
theorem dX3_setting_40 : decode cX3_setting 40 = .ok (.ireturn, 1) := by decide +kernel
set_option maxRecDepth 20000 in
theorem ggX3_turnsIn_X3_isWithin : GoodIn wsX3_turnsIn wsX3_isWithin := goodIn_r _ [6] (by decide +kernel) (by decide +kernel)
set_option maxRecDepth 20000 in
theorem gX3_turnsIn_X3_isWithin : GoodIn wsX3_turnsIn (va_wsS RX3 51 yX3_isWithin wsX3_isWithin) := goodIn_app (goodIn_of _ (by decide +kernel)) ggX3_turnsIn_X3_isWithin
set_option maxRecDepth 20000 in
theorem ggX3_turnsIn_X3_courseOf : GoodIn wsX3_turnsIn wsX3_courseOf := goodIn_r _ [10, 11, 12, 21, 22, 23, 24, 25, 26, 27, 28] (by decide +kernel) (by decide +kernel)
set_option maxRecDepth 20000 in
theorem gX3_turnsIn_X3_courseOf : GoodIn wsX3_turnsIn (wsV RX3 142 RX3 yX3_courseOf wsX3_courseOf) := goodIn_app (goodIn_of _ (by decide +kernel)) ggX3_turnsIn_X3_courseOf
set_option maxRecDepth 20000 in
theorem ggX3_turnsIn_X0_turnsWithin : GoodIn wsX3_turnsIn wsX0_turnsWithin := goodIn_r _ [17, 18, 19, 20, 29, 30, 31, 32, 33, 34] (by decide +kernel) (by decide +kernel)
set_option maxRecDepth 20000 in
theorem gX3_turnsIn_X0_turnsWithin : GoodIn wsX3_turnsIn (wsV RX3 254 RX0 yX0_turnsWithin wsX0_turnsWithin) := goodIn_app (goodIn_of _ (by decide +kernel)) ggX3_turnsIn_X0_turnsWithin
theorem dX3_turnsIn_0 : decode cX3_turnsIn 0 = .ok (.iload_n 1, 1) := by decide +kernel
theorem dX3_turnsIn_1 : decode cX3_turnsIn 1 = .ok (.iconst 0, 1) := by decide +kernel
theorem dX3_turnsIn_2 : decode cX3_turnsIn 2 = .ok (.sipush 999, 3) := by decide +kernel
theorem dX3_turnsIn_5 : decode cX3_turnsIn 5 = .ok (.invokestatic 51, 3) := by decide +kernel
theorem dX3_turnsIn_8 : decode cX3_turnsIn 8 = .ok (.ifCond .ne 13, 3) := by decide +kernel
theorem dX3_turnsIn_11 : decode cX3_turnsIn 11 = .ok (.new 59, 3) := by decide +kernel
theorem dX3_turnsIn_14 : decode cX3_turnsIn 14 = .ok (.dup, 1) := by decide +kernel
theorem dX3_turnsIn_15 : decode cX3_turnsIn 15 = .ok (.ldc 109, 2) := by decide +kernel
theorem dX3_turnsIn_17 : decode cX3_turnsIn 17 = .ok (.invokespecial 63, 3) := by decide +kernel
theorem dX3_turnsIn_20 : decode cX3_turnsIn 20 = .ok (.athrow, 1) := by decide +kernel
theorem dX3_turnsIn_21 : decode cX3_turnsIn 21 = .ok (.iconst 0, 1) := by decide +kernel
theorem dX3_turnsIn_22 : decode cX3_turnsIn 22 = .ok (.istore_n 2, 1) := by decide +kernel
theorem dX3_turnsIn_23 : decode cX3_turnsIn 23 = .ok (.iconst 1, 1) := by decide +kernel
theorem dX3_turnsIn_24 : decode cX3_turnsIn 24 = .ok (.istore_n 3, 1) := by decide +kernel
theorem dX3_turnsIn_25 : decode cX3_turnsIn 25 = .ok (.iload_n 3, 1) := by decide +kernel
theorem dX3_turnsIn_26 : decode cX3_turnsIn 26 = .ok (.bipush 15, 2) := by decide +kernel
theorem dX3_turnsIn_28 : decode cX3_turnsIn 28 = .ok (.if_icmp .gt 21, 3) := by decide +kernel
theorem dX3_turnsIn_31 : decode cX3_turnsIn 31 = .ok (.iload_n 2, 1) := by decide +kernel
theorem dX3_turnsIn_32 : decode cX3_turnsIn 32 = .ok (.aload_n 0, 1) := by decide +kernel
theorem dX3_turnsIn_33 : decode cX3_turnsIn 33 = .ok (.iload_n 3, 1) := by decide +kernel
theorem dX3_turnsIn_34 : decode cX3_turnsIn 34 = .ok (.invokevirtual 142, 3) := by decide +kernel
theorem dX3_turnsIn_37 : decode cX3_turnsIn 37 = .ok (.iload_n 1, 1) := by decide +kernel
theorem dX3_turnsIn_38 : decode cX3_turnsIn 38 = .ok (.invokevirtual 254, 3) := by decide +kernel
theorem dX3_turnsIn_41 : decode cX3_turnsIn 41 = .ok (.iadd, 1) := by decide +kernel
theorem dX3_turnsIn_42 : decode cX3_turnsIn 42 = .ok (.istore_n 2, 1) := by decide +kernel
theorem dX3_turnsIn_43 : decode cX3_turnsIn 43 = .ok (.iinc 3 1, 3) := by decide +kernel
theorem dX3_turnsIn_46 : decode cX3_turnsIn 46 = .ok (.goto (-21), 3) := by decide +kernel
theorem dX3_turnsIn_49 : decode cX3_turnsIn 49 = .ok (.iload_n 2, 1) := by decide +kernel
theorem dX3_turnsIn_50 : decode cX3_turnsIn 50 = .ok (.ireturn, 1) := by decide +kernel
set_option maxRecDepth 20000 in
theorem ggX3_save_X3_latestSaved : GoodIn wsX3_save wsX3_latestSaved := goodIn_r _ [8, 2, 1, 9, 23, 24, 25, 26, 27, 28, 29, 30] (by decide +kernel) (by decide +kernel)
set_option maxRecDepth 20000 in
theorem gX3_save_X3_latestSaved : GoodIn wsX3_save (wsV RX3 199 RX3 yX3_latestSaved wsX3_latestSaved) := goodIn_app (goodIn_of _ (by decide +kernel)) ggX3_save_X3_latestSaved
set_option maxRecDepth 20000 in
theorem ggX3_save_X1_copyFrom : GoodIn wsX3_save wsX1_copyFrom := goodIn_r _ [14, 15, 16, 17, 18, 19, 20, 21, 22, 31, 32, 33, 34, 35, 36, 37, 38] (by decide +kernel) (by decide +kernel)
set_option maxRecDepth 20000 in
theorem gX3_save_X1_copyFrom : GoodIn wsX3_save (wsV RX3 203 RX1 yX1_copyFrom wsX1_copyFrom) := goodIn_app (goodIn_of _ (by decide +kernel)) ggX3_save_X1_copyFrom
theorem dX3_save_0 : decode cX3_save 0 = .ok (.aload_n 0, 1) := by decide +kernel
theorem dX3_save_1 : decode cX3_save 1 = .ok (.getfield 24, 3) := by decide +kernel
theorem dX3_save_4 : decode cX3_save 4 = .ok (.bipush 6, 2) := by decide +kernel
theorem dX3_save_6 : decode cX3_save 6 = .ok (.if_icmp .ge 16, 3) := by decide +kernel
theorem dX3_save_9 : decode cX3_save 9 = .ok (.aload_n 0, 1) := by decide +kernel
theorem dX3_save_10 : decode cX3_save 10 = .ok (.dup, 1) := by decide +kernel
theorem dX3_save_11 : decode cX3_save 11 = .ok (.getfield 24, 3) := by decide +kernel
theorem dX3_save_14 : decode cX3_save 14 = .ok (.iconst 1, 1) := by decide +kernel
theorem dX3_save_15 : decode cX3_save 15 = .ok (.iadd, 1) := by decide +kernel
theorem dX3_save_16 : decode cX3_save 16 = .ok (.putfield 24, 3) := by decide +kernel
theorem dX3_save_19 : decode cX3_save 19 = .ok (.goto 16, 3) := by decide +kernel
theorem dX3_save_22 : decode cX3_save 22 = .ok (.aload_n 0, 1) := by decide +kernel
theorem dX3_save_23 : decode cX3_save 23 = .ok (.aload_n 0, 1) := by decide +kernel
theorem dX3_save_24 : decode cX3_save 24 = .ok (.getfield 20, 3) := by decide +kernel
theorem dX3_save_27 : decode cX3_save 27 = .ok (.iconst 1, 1) := by decide +kernel
theorem dX3_save_28 : decode cX3_save 28 = .ok (.iadd, 1) := by decide +kernel
theorem dX3_save_29 : decode cX3_save 29 = .ok (.bipush 6, 2) := by decide +kernel
theorem dX3_save_31 : decode cX3_save 31 = .ok (.irem, 1) := by decide +kernel
theorem dX3_save_32 : decode cX3_save 32 = .ok (.putfield 20, 3) := by decide +kernel
theorem dX3_save_35 : decode cX3_save 35 = .ok (.aload_n 0, 1) := by decide +kernel
theorem dX3_save_36 : decode cX3_save 36 = .ok (.invokevirtual 199, 3) := by decide +kernel
theorem dX3_save_39 : decode cX3_save 39 = .ok (.astore_n 1, 1) := by decide +kernel
theorem dX3_save_40 : decode cX3_save 40 = .ok (.aload_n 1, 1) := by decide +kernel
theorem dX3_save_41 : decode cX3_save 41 = .ok (.ifnull 11, 3) := by decide +kernel
theorem dX3_save_44 : decode cX3_save 44 = .ok (.aload_n 1, 1) := by decide +kernel
theorem dX3_save_45 : decode cX3_save 45 = .ok (.aload_n 0, 1) := by decide +kernel
theorem dX3_save_46 : decode cX3_save 46 = .ok (.getfield 12, 3) := by decide +kernel
theorem dX3_save_49 : decode cX3_save 49 = .ok (.invokevirtual 203, 3) := by decide +kernel
theorem dX3_save_52 : decode cX3_save 52 = .ok (.return_, 1) := by decide +kernel
theorem dX3_latestSaved_0 : decode cX3_latestSaved 0 = .ok (.aload_n 0, 1) := by decide +kernel
theorem dX3_latestSaved_1 : decode cX3_latestSaved 1 = .ok (.getfield 20, 3) := by decide +kernel
theorem dX3_latestSaved_4 : decode cX3_latestSaved 4 = .ok (.aload_n 0, 1) := by decide +kernel
theorem dX3_latestSaved_5 : decode cX3_latestSaved 5 = .ok (.getfield 24, 3) := by decide +kernel
theorem dX3_latestSaved_8 : decode cX3_latestSaved 8 = .ok (.iadd, 1) := by decide +kernel
theorem dX3_latestSaved_9 : decode cX3_latestSaved 9 = .ok (.iconst 1, 1) := by decide +kernel
theorem dX3_latestSaved_10 : decode cX3_latestSaved 10 = .ok (.isub, 1) := by decide +kernel
theorem dX3_latestSaved_11 : decode cX3_latestSaved 11 = .ok (.bipush 6, 2) := by decide +kernel
theorem dX3_latestSaved_13 : decode cX3_latestSaved 13 = .ok (.irem, 1) := by decide +kernel
theorem dX3_latestSaved_14 : decode cX3_latestSaved 14 = .ok (.istore_n 1, 1) := by decide +kernel
theorem dX3_latestSaved_15 : decode cX3_latestSaved 15 = .ok (.iload_n 1, 1) := by decide +kernel
theorem dX3_latestSaved_16 : decode cX3_latestSaved 16 = .ok (.ifCond .lt 18, 3) := by decide +kernel
theorem dX3_latestSaved_19 : decode cX3_latestSaved 19 = .ok (.iload_n 1, 1) := by decide +kernel
theorem dX3_latestSaved_20 : decode cX3_latestSaved 20 = .ok (.bipush 6, 2) := by decide +kernel
theorem dX3_latestSaved_22 : decode cX3_latestSaved 22 = .ok (.if_icmp .ge 12, 3) := by decide +kernel
theorem dX3_latestSaved_25 : decode cX3_latestSaved 25 = .ok (.aload_n 0, 1) := by decide +kernel
theorem dX3_latestSaved_26 : decode cX3_latestSaved 26 = .ok (.getfield 16, 3) := by decide +kernel
theorem dX3_latestSaved_29 : decode cX3_latestSaved 29 = .ok (.iload_n 1, 1) := by decide +kernel
theorem dX3_latestSaved_30 : decode cX3_latestSaved 30 = .ok (.aaload, 1) := by decide +kernel
theorem dX3_latestSaved_31 : decode cX3_latestSaved 31 = .ok (.goto 4, 3) := by decide +kernel
theorem dX3_latestSaved_34 : decode cX3_latestSaved 34 = .ok (.aconst_null, 1) := by decide +kernel
theorem dX3_latestSaved_35 : decode cX3_latestSaved 35 = .ok (.areturn, 1) := by decide +kernel
set_option maxRecDepth 20000 in
theorem ggX3_foresee_X3_courseOf : GoodIn wsX3_foresee wsX3_courseOf := goodIn_r _ [6, 7, 8, 66, 67, 68, 69, 70, 71, 72, 73] (by decide +kernel) (by decide +kernel)
set_option maxRecDepth 20000 in
theorem gX3_foresee_X3_courseOf : GoodIn wsX3_foresee (wsV RX3 142 RX3 yX3_courseOf wsX3_courseOf) := goodIn_app (goodIn_of _ (by decide +kernel)) ggX3_foresee_X3_courseOf
set_option maxRecDepth 20000 in
theorem ggX3_foresee_X0_follow : GoodIn wsX3_foresee wsX0_follow := goodIn_r _ [13, 14, 15, 16, 17, 18, 19, 20, 21, 22, 23, 24, 25, 26, 27, 28, 29, 30, 31, 32, 33, 34, 35, 36, 37, 38, 39, 40, 41, 42, 43, 44, 45, 46, 47, 48, 12, 49, 50, 51, 52, 53, 54, 55, 56, 57, 58, 59, 60, 61, 62, 63, 64, 5, 65, 74, 75, 76, 77, 78, 79, 80, 81, 82, 83, 84, 85, 86, 87] (by decide +kernel) (by decide +kernel)
set_option maxRecDepth 20000 in
theorem gX3_foresee_X0_follow : GoodIn wsX3_foresee (wsV RX3 328 RX0 yX0_follow wsX0_follow) := goodIn_app (goodIn_of _ (by decide +kernel)) ggX3_foresee_X0_follow
theorem dX3_foresee_0 : decode cX3_foresee 0 = .ok (.iconst 1, 1) := by decide +kernel
theorem dX3_foresee_1 : decode cX3_foresee 1 = .ok (.istore_n 1, 1) := by decide +kernel
theorem dX3_foresee_2 : decode cX3_foresee 2 = .ok (.iload_n 1, 1) := by decide +kernel
theorem dX3_foresee_3 : decode cX3_foresee 3 = .ok (.bipush 15, 2) := by decide +kernel
theorem dX3_foresee_5 : decode cX3_foresee 5 = .ok (.if_icmp .gt 21, 3) := by decide +kernel
theorem dX3_foresee_8 : decode cX3_foresee 8 = .ok (.aload_n 0, 1) := by decide +kernel
theorem dX3_foresee_9 : decode cX3_foresee 9 = .ok (.iload_n 1, 1) := by decide +kernel
theorem dX3_foresee_10 : decode cX3_foresee 10 = .ok (.invokevirtual 142, 3) := by decide +kernel
theorem dX3_foresee_13 : decode cX3_foresee 13 = .ok (.aload_n 0, 1) := by decide +kernel
theorem dX3_foresee_14 : decode cX3_foresee 14 = .ok (.getfield 12, 3) := by decide +kernel
theorem dX3_foresee_17 : decode cX3_foresee 17 = .ok (.invokevirtual 328, 3) := by decide +kernel
theorem dX3_foresee_20 : decode cX3_foresee 20 = .ok (.iinc 1 1, 3) := by decide +kernel
theorem dX3_foresee_23 : decode cX3_foresee 23 = .ok (.goto (-21), 3) := by decide +kernel
theorem dX3_foresee_26 : decode cX3_foresee 26 = .ok (.return_, 1) := by decide +kernel
theorem dX3_courseOf_0 : decode cX3_courseOf 0 = .ok (.iload_n 1, 1) := by decide +kernel
theorem dX3_courseOf_1 : decode cX3_courseOf 1 = .ok (.iconst 1, 1) := by decide +kernel
theorem dX3_courseOf_2 : decode cX3_courseOf 2 = .ok (.if_icmp .lt 9, 3) := by decide +kernel
theorem dX3_courseOf_5 : decode cX3_courseOf 5 = .ok (.iload_n 1, 1) := by decide +kernel
theorem dX3_courseOf_6 : decode cX3_courseOf 6 = .ok (.bipush 15, 2) := by decide +kernel
theorem dX3_courseOf_8 : decode cX3_courseOf 8 = .ok (.if_icmp .le 8, 3) := by decide +kernel
theorem dX3_courseOf_11 : decode cX3_courseOf 11 = .ok (.aload_n 0, 1) := by decide +kernel
theorem dX3_courseOf_12 : decode cX3_courseOf 12 = .ok (.getfield 32, 3) := by decide +kernel
theorem dX3_courseOf_15 : decode cX3_courseOf 15 = .ok (.areturn, 1) := by decide +kernel
theorem dX3_courseOf_16 : decode cX3_courseOf 16 = .ok (.aload_n 0, 1) := by decide +kernel
theorem dX3_courseOf_17 : decode cX3_courseOf 17 = .ok (.getfield 36, 3) := by decide +kernel
theorem dX3_courseOf_20 : decode cX3_courseOf 20 = .ok (.iload_n 1, 1) := by decide +kernel
theorem dX3_courseOf_21 : decode cX3_courseOf 21 = .ok (.aaload, 1) := by decide +kernel
theorem dX3_courseOf_22 : decode cX3_courseOf 22 = .ok (.astore_n 2, 1) := by decide +kernel
theorem dX3_courseOf_23 : decode cX3_courseOf 23 = .ok (.aload_n 2, 1) := by decide +kernel
theorem dX3_courseOf_24 : decode cX3_courseOf 24 = .ok (.ifnonnull 10, 3) := by decide +kernel
theorem dX3_courseOf_27 : decode cX3_courseOf 27 = .ok (.aload_n 0, 1) := by decide +kernel
theorem dX3_courseOf_28 : decode cX3_courseOf 28 = .ok (.getfield 32, 3) := by decide +kernel
theorem dX3_courseOf_31 : decode cX3_courseOf 31 = .ok (.goto 4, 3) := by decide +kernel
theorem dX3_courseOf_34 : decode cX3_courseOf 34 = .ok (.aload_n 2, 1) := by decide +kernel
theorem dX3_courseOf_35 : decode cX3_courseOf 35 = .ok (.areturn, 1) := by decide +kernel
set_option maxRecDepth 20000 in
theorem ggX3_winnerOf_X3_courseOf : GoodIn wsX3_winnerOf wsX3_courseOf := goodIn_r _ [5, 6, 7, 19, 20, 21, 22, 23, 24, 25, 26] (by decide +kernel) (by decide +kernel)
set_option maxRecDepth 20000 in
theorem gX3_winnerOf_X3_courseOf : GoodIn wsX3_winnerOf (wsV RX3 142 RX3 yX3_courseOf wsX3_courseOf) := goodIn_app (goodIn_of _ (by decide +kernel)) ggX3_winnerOf_X3_courseOf
set_option maxRecDepth 20000 in
theorem ggX3_winnerOf_X0_winnerIn : GoodIn wsX3_winnerOf wsX0_winnerIn := goodIn_r _ [12, 13, 14, 15, 16, 11, 17, 18, 27, 28, 29, 30, 31, 32] (by decide +kernel) (by decide +kernel)
set_option maxRecDepth 20000 in
theorem gX3_winnerOf_X0_winnerIn : GoodIn wsX3_winnerOf (wsV RX3 230 RX0 yX0_winnerIn wsX0_winnerIn) := goodIn_app (goodIn_of _ (by decide +kernel)) ggX3_winnerOf_X0_winnerIn
theorem dX3_winnerOf_0 : decode cX3_winnerOf 0 = .ok (.aload_n 0, 1) := by decide +kernel
theorem dX3_winnerOf_1 : decode cX3_winnerOf 1 = .ok (.iload_n 1, 1) := by decide +kernel
theorem dX3_winnerOf_2 : decode cX3_winnerOf 2 = .ok (.invokevirtual 142, 3) := by decide +kernel
theorem dX3_winnerOf_5 : decode cX3_winnerOf 5 = .ok (.iconst 0, 1) := by decide +kernel
theorem dX3_winnerOf_6 : decode cX3_winnerOf 6 = .ok (.invokevirtual 230, 3) := by decide +kernel
theorem dX3_winnerOf_9 : decode cX3_winnerOf 9 = .ok (.ireturn, 1) := by decide +kernel
set_option maxRecDepth 20000 in
theorem ggX3_loserOf_X3_comingFrom : GoodIn wsX3_loserOf wsX3_comingFrom := goodIn_r _ [5, 6, 7, 8, 9, 4, 10, 11, 12, 13, 14, 15, 16, 17, 18, 19, 20, 21, 22, 23, 24, 25, 26, 27, 28, 29, 30, 31, 32, 33, 34, 35, 36, 37, 38, 39, 40, 41, 42, 43, 44, 45, 46, 47, 48, 49, 50, 51, 52, 53, 54, 55] (by decide +kernel) (by decide +kernel)
set_option maxRecDepth 20000 in
theorem gX3_loserOf_X3_comingFrom : GoodIn wsX3_loserOf (wsV RX3 331 RX3 yX3_comingFrom wsX3_comingFrom) := goodIn_app (goodIn_of _ (by decide +kernel)) ggX3_loserOf_X3_comingFrom
set_option maxRecDepth 20000 in
theorem ggX3_loserOf_X3_winnerOf : GoodIn wsX3_loserOf wsX3_winnerOf := goodIn_r _ [10, 11, 12, 13, 4, 14, 15, 16, 17, 18, 19, 20, 21, 22, 23, 24, 25, 26, 27, 34, 35, 36, 37, 38, 39, 40, 41, 42, 43, 44, 45, 46, 47] (by decide +kernel) (by decide +kernel)
set_option maxRecDepth 20000 in
theorem gX3_loserOf_X3_winnerOf : GoodIn wsX3_loserOf (wsV RX3 123 RX3 yX3_winnerOf wsX3_winnerOf) := goodIn_app (goodIn_of _ (by decide +kernel)) ggX3_loserOf_X3_winnerOf
theorem dX3_loserOf_0 : decode cX3_loserOf 0 = .ok (.aload_n 0, 1) := by decide +kernel
theorem dX3_loserOf_1 : decode cX3_loserOf 1 = .ok (.iload_n 1, 1) := by decide +kernel
theorem dX3_loserOf_2 : decode cX3_loserOf 2 = .ok (.iconst 0, 1) := by decide +kernel
theorem dX3_loserOf_3 : decode cX3_loserOf 3 = .ok (.invokevirtual 331, 3) := by decide +kernel
theorem dX3_loserOf_6 : decode cX3_loserOf 6 = .ok (.istore_n 2, 1) := by decide +kernel
theorem dX3_loserOf_7 : decode cX3_loserOf 7 = .ok (.aload_n 0, 1) := by decide +kernel
theorem dX3_loserOf_8 : decode cX3_loserOf 8 = .ok (.iload_n 1, 1) := by decide +kernel
theorem dX3_loserOf_9 : decode cX3_loserOf 9 = .ok (.iconst 1, 1) := by decide +kernel
theorem dX3_loserOf_10 : decode cX3_loserOf 10 = .ok (.invokevirtual 331, 3) := by decide +kernel
theorem dX3_loserOf_13 : decode cX3_loserOf 13 = .ok (.istore_n 3, 1) := by decide +kernel
theorem dX3_loserOf_14 : decode cX3_loserOf 14 = .ok (.iload_n 2, 1) := by decide +kernel
theorem dX3_loserOf_15 : decode cX3_loserOf 15 = .ok (.iconst (-1), 1) := by decide +kernel
theorem dX3_loserOf_16 : decode cX3_loserOf 16 = .ok (.if_icmp .eq 8, 3) := by decide +kernel
theorem dX3_loserOf_19 : decode cX3_loserOf 19 = .ok (.iload_n 3, 1) := by decide +kernel
theorem dX3_loserOf_20 : decode cX3_loserOf 20 = .ok (.iconst (-1), 1) := by decide +kernel
theorem dX3_loserOf_21 : decode cX3_loserOf 21 = .ok (.if_icmp .ne 5, 3) := by decide +kernel
theorem dX3_loserOf_24 : decode cX3_loserOf 24 = .ok (.iconst (-1), 1) := by decide +kernel
theorem dX3_loserOf_25 : decode cX3_loserOf 25 = .ok (.ireturn, 1) := by decide +kernel
theorem dX3_loserOf_26 : decode cX3_loserOf 26 = .ok (.aload_n 0, 1) := by decide +kernel
theorem dX3_loserOf_27 : decode cX3_loserOf 27 = .ok (.iload_n 1, 1) := by decide +kernel
theorem dX3_loserOf_28 : decode cX3_loserOf 28 = .ok (.invokevirtual 123, 3) := by decide +kernel
theorem dX3_loserOf_31 : decode cX3_loserOf 31 = .ok (.iload_n 2, 1) := by decide +kernel
theorem dX3_loserOf_32 : decode cX3_loserOf 32 = .ok (.if_icmp .ne 7, 3) := by decide +kernel
theorem dX3_loserOf_35 : decode cX3_loserOf 35 = .ok (.iload_n 3, 1) := by decide +kernel
theorem dX3_loserOf_36 : decode cX3_loserOf 36 = .ok (.goto 4, 3) := by decide +kernel
theorem dX3_loserOf_39 : decode cX3_loserOf 39 = .ok (.iload_n 2, 1) := by decide +kernel
theorem dX3_loserOf_40 : decode cX3_loserOf 40 = .ok (.ireturn, 1) := by decide +kernel
set_option maxRecDepth 20000 in
theorem ggX3_comingFrom_X3_winnerOf : GoodIn wsX3_comingFrom wsX3_winnerOf := goodIn_r _ [6, 7, 8, 9, 5, 10, 11, 12, 13, 14, 15, 16, 17, 18, 19, 20, 21, 22, 23, 30, 31, 32, 33, 34, 35, 36, 37, 38, 39, 40, 41, 42, 43] (by decide +kernel) (by decide +kernel)
set_option maxRecDepth 20000 in
theorem gX3_comingFrom_X3_winnerOf : GoodIn wsX3_comingFrom (wsV RX3 123 RX3 yX3_winnerOf wsX3_winnerOf) := goodIn_app (goodIn_of _ (by decide +kernel)) ggX3_comingFrom_X3_winnerOf
set_option maxRecDepth 20000 in
theorem ggX3_comingFrom_X1_has : GoodIn wsX3_comingFrom wsX1_has := goodIn_r _ [28, 29, 44, 45, 46, 47, 48, 49, 50, 51] (by decide +kernel) (by decide +kernel)
set_option maxRecDepth 20000 in
theorem gX3_comingFrom_X1_has : GoodIn wsX3_comingFrom (wsV RX3 85 RX1 yX1_has wsX1_has) := goodIn_app (goodIn_of _ (by decide +kernel)) ggX3_comingFrom_X1_has
theorem dX3_comingFrom_0 : decode cX3_comingFrom 0 = .ok (.iload_n 1, 1) := by decide +kernel
theorem dX3_comingFrom_1 : decode cX3_comingFrom 1 = .ok (.bipush 8, 2) := by decide +kernel
theorem dX3_comingFrom_3 : decode cX3_comingFrom 3 = .ok (.if_icmp .ge 13, 3) := by decide +kernel
theorem dX3_comingFrom_6 : decode cX3_comingFrom 6 = .ok (.aload_n 0, 1) := by decide +kernel
theorem dX3_comingFrom_7 : decode cX3_comingFrom 7 = .ok (.iconst 2, 1) := by decide +kernel
theorem dX3_comingFrom_8 : decode cX3_comingFrom 8 = .ok (.iload_n 1, 1) := by decide +kernel
theorem dX3_comingFrom_9 : decode cX3_comingFrom 9 = .ok (.imul, 1) := by decide +kernel
theorem dX3_comingFrom_10 : decode cX3_comingFrom 10 = .ok (.iload_n 2, 1) := by decide +kernel
theorem dX3_comingFrom_11 : decode cX3_comingFrom 11 = .ok (.iadd, 1) := by decide +kernel
theorem dX3_comingFrom_12 : decode cX3_comingFrom 12 = .ok (.invokevirtual 123, 3) := by decide +kernel
theorem dX3_comingFrom_15 : decode cX3_comingFrom 15 = .ok (.ireturn, 1) := by decide +kernel
theorem dX3_comingFrom_16 : decode cX3_comingFrom 16 = .ok (.iconst 2, 1) := by decide +kernel
theorem dX3_comingFrom_17 : decode cX3_comingFrom 17 = .ok (.iload_n 1, 1) := by decide +kernel
theorem dX3_comingFrom_18 : decode cX3_comingFrom 18 = .ok (.bipush 8, 2) := by decide +kernel
theorem dX3_comingFrom_20 : decode cX3_comingFrom 20 = .ok (.isub, 1) := by decide +kernel
theorem dX3_comingFrom_21 : decode cX3_comingFrom 21 = .ok (.imul, 1) := by decide +kernel
theorem dX3_comingFrom_22 : decode cX3_comingFrom 22 = .ok (.iload_n 2, 1) := by decide +kernel
theorem dX3_comingFrom_23 : decode cX3_comingFrom 23 = .ok (.iadd, 1) := by decide +kernel
theorem dX3_comingFrom_24 : decode cX3_comingFrom 24 = .ok (.istore_n 3, 1) := by decide +kernel
theorem dX3_comingFrom_25 : decode cX3_comingFrom 25 = .ok (.aload_n 0, 1) := by decide +kernel
theorem dX3_comingFrom_26 : decode cX3_comingFrom 26 = .ok (.getfield 12, 3) := by decide +kernel
theorem dX3_comingFrom_29 : decode cX3_comingFrom 29 = .ok (.iload_n 3, 1) := by decide +kernel
theorem dX3_comingFrom_30 : decode cX3_comingFrom 30 = .ok (.invokevirtual 85, 3) := by decide +kernel
theorem dX3_comingFrom_33 : decode cX3_comingFrom 33 = .ok (.ifCond .eq 7, 3) := by decide +kernel
theorem dX3_comingFrom_36 : decode cX3_comingFrom 36 = .ok (.iload_n 3, 1) := by decide +kernel
theorem dX3_comingFrom_37 : decode cX3_comingFrom 37 = .ok (.goto 4, 3) := by decide +kernel
theorem dX3_comingFrom_40 : decode cX3_comingFrom 40 = .ok (.iconst (-1), 1) := by decide +kernel
theorem dX3_comingFrom_41 : decode cX3_comingFrom 41 = .ok (.ireturn, 1) := by decide +kernel
set_option maxRecDepth 20000 in
theorem ggX3_winsOf_X3_winnerOf : GoodIn wsX3_winsOf wsX3_winnerOf := goodIn_r _ [5, 6, 7, 8, 4, 9, 10, 11, 12, 13, 14, 15, 16, 17, 18, 19, 20, 21, 22, 23, 24, 25, 26, 27, 28, 29, 30, 31, 32, 33, 34, 35, 36] (by decide +kernel) (by decide +kernel)
set_option maxRecDepth 20000 in
theorem gX3_winsOf_X3_winnerOf : GoodIn wsX3_winsOf (wsV RX3 123 RX3 yX3_winnerOf wsX3_winnerOf) := goodIn_app (goodIn_of _ (by decide +kernel)) ggX3_winsOf_X3_winnerOf
theorem dX3_winsOf_0 : decode cX3_winsOf 0 = .ok (.iconst 0, 1) := by decide +kernel
theorem dX3_winsOf_1 : decode cX3_winsOf 1 = .ok (.istore_n 2, 1) := by decide +kernel
theorem dX3_winsOf_2 : decode cX3_winsOf 2 = .ok (.iconst 1, 1) := by decide +kernel
theorem dX3_winsOf_3 : decode cX3_winsOf 3 = .ok (.istore_n 3, 1) := by decide +kernel
theorem dX3_winsOf_4 : decode cX3_winsOf 4 = .ok (.iload_n 3, 1) := by decide +kernel
theorem dX3_winsOf_5 : decode cX3_winsOf 5 = .ok (.bipush 15, 2) := by decide +kernel
theorem dX3_winsOf_7 : decode cX3_winsOf 7 = .ok (.if_icmp .gt 21, 3) := by decide +kernel
theorem dX3_winsOf_10 : decode cX3_winsOf 10 = .ok (.aload_n 0, 1) := by decide +kernel
theorem dX3_winsOf_11 : decode cX3_winsOf 11 = .ok (.iload_n 3, 1) := by decide +kernel
theorem dX3_winsOf_12 : decode cX3_winsOf 12 = .ok (.invokevirtual 123, 3) := by decide +kernel
theorem dX3_winsOf_15 : decode cX3_winsOf 15 = .ok (.iload_n 1, 1) := by decide +kernel
theorem dX3_winsOf_16 : decode cX3_winsOf 16 = .ok (.if_icmp .ne 6, 3) := by decide +kernel
theorem dX3_winsOf_19 : decode cX3_winsOf 19 = .ok (.iinc 2 1, 3) := by decide +kernel
theorem dX3_winsOf_22 : decode cX3_winsOf 22 = .ok (.iinc 3 1, 3) := by decide +kernel
theorem dX3_winsOf_25 : decode cX3_winsOf 25 = .ok (.goto (-21), 3) := by decide +kernel
theorem dX3_winsOf_28 : decode cX3_winsOf 28 = .ok (.iload_n 2, 1) := by decide +kernel
theorem dX3_winsOf_29 : decode cX3_winsOf 29 = .ok (.ireturn, 1) := by decide +kernel
set_option maxRecDepth 20000 in
theorem ggX3_firstToTurn_X3_courseOf : GoodIn wsX3_firstToTurn wsX3_courseOf := goodIn_r _ [6, 7, 8, 35, 36, 37, 38, 39, 40, 41, 42] (by decide +kernel) (by decide +kernel)
set_option maxRecDepth 20000 in
theorem gX3_firstToTurn_X3_courseOf : GoodIn wsX3_firstToTurn (wsV RX3 142 RX3 yX3_courseOf wsX3_courseOf) := goodIn_app (goodIn_of _ (by decide +kernel)) ggX3_firstToTurn_X3_courseOf
set_option maxRecDepth 20000 in
theorem ggX3_firstToTurn_X0_turnsBefore : GoodIn wsX3_firstToTurn wsX0_turnsBefore := goodIn_r _ [13, 14, 15, 16, 12, 17, 18, 19, 20, 21, 22, 23, 24, 25, 26, 27, 28, 29, 30, 31, 32, 33, 34] (by decide +kernel) (by decide +kernel)
set_option maxRecDepth 20000 in
theorem gX3_firstToTurn_X0_turnsBefore : GoodIn wsX3_firstToTurn (wsV RX3 334 RX0 yX0_turnsBefore wsX0_turnsBefore) := goodIn_app (goodIn_of _ (by decide +kernel)) ggX3_firstToTurn_X0_turnsBefore
theorem dX3_firstToTurn_0 : decode cX3_firstToTurn 0 = .ok (.iconst (-1), 1) := by decide +kernel
theorem dX3_firstToTurn_1 : decode cX3_firstToTurn 1 = .ok (.istore_n 1, 1) := by decide +kernel
theorem dX3_firstToTurn_2 : decode cX3_firstToTurn 2 = .ok (.iconst 1, 1) := by decide +kernel
theorem dX3_firstToTurn_3 : decode cX3_firstToTurn 3 = .ok (.istore_n 2, 1) := by decide +kernel
theorem dX3_firstToTurn_4 : decode cX3_firstToTurn 4 = .ok (.iload_n 2, 1) := by decide +kernel
theorem dX3_firstToTurn_5 : decode cX3_firstToTurn 5 = .ok (.bipush 15, 2) := by decide +kernel
theorem dX3_firstToTurn_7 : decode cX3_firstToTurn 7 = .ok (.if_icmp .gt 42, 3) := by decide +kernel
theorem dX3_firstToTurn_10 : decode cX3_firstToTurn 10 = .ok (.aload_n 0, 1) := by decide +kernel
theorem dX3_firstToTurn_11 : decode cX3_firstToTurn 11 = .ok (.iload_n 2, 1) := by decide +kernel
theorem dX3_firstToTurn_12 : decode cX3_firstToTurn 12 = .ok (.invokevirtual 142, 3) := by decide +kernel
theorem dX3_firstToTurn_15 : decode cX3_firstToTurn 15 = .ok (.astore_n 3, 1) := by decide +kernel
theorem dX3_firstToTurn_16 : decode cX3_firstToTurn 16 = .ok (.aload_n 3, 1) := by decide +kernel
theorem dX3_firstToTurn_17 : decode cX3_firstToTurn 17 = .ok (.getfield 244, 3) := by decide +kernel
theorem dX3_firstToTurn_20 : decode cX3_firstToTurn 20 = .ok (.iconst 1, 1) := by decide +kernel
theorem dX3_firstToTurn_21 : decode cX3_firstToTurn 21 = .ok (.if_icmp .le 22, 3) := by decide +kernel
theorem dX3_firstToTurn_24 : decode cX3_firstToTurn 24 = .ok (.iload_n 1, 1) := by decide +kernel
theorem dX3_firstToTurn_25 : decode cX3_firstToTurn 25 = .ok (.iconst (-1), 1) := by decide +kernel
theorem dX3_firstToTurn_26 : decode cX3_firstToTurn 26 = .ok (.if_icmp .eq 15, 3) := by decide +kernel
theorem dX3_firstToTurn_29 : decode cX3_firstToTurn 29 = .ok (.aload_n 3, 1) := by decide +kernel
theorem dX3_firstToTurn_30 : decode cX3_firstToTurn 30 = .ok (.aload_n 0, 1) := by decide +kernel
theorem dX3_firstToTurn_31 : decode cX3_firstToTurn 31 = .ok (.iload_n 1, 1) := by decide +kernel
theorem dX3_firstToTurn_32 : decode cX3_firstToTurn 32 = .ok (.invokevirtual 142, 3) := by decide +kernel
theorem dX3_firstToTurn_35 : decode cX3_firstToTurn 35 = .ok (.invokevirtual 334, 3) := by decide +kernel
theorem dX3_firstToTurn_38 : decode cX3_firstToTurn 38 = .ok (.ifCond .eq 5, 3) := by decide +kernel
theorem dX3_firstToTurn_41 : decode cX3_firstToTurn 41 = .ok (.iload_n 2, 1) := by decide +kernel
theorem dX3_firstToTurn_42 : decode cX3_firstToTurn 42 = .ok (.istore_n 1, 1) := by decide +kernel
theorem dX3_firstToTurn_43 : decode cX3_firstToTurn 43 = .ok (.iinc 2 1, 3) := by decide +kernel
theorem dX3_firstToTurn_46 : decode cX3_firstToTurn 46 = .ok (.goto (-42), 3) := by decide +kernel
theorem dX3_firstToTurn_49 : decode cX3_firstToTurn 49 = .ok (.iload_n 1, 1) := by decide +kernel
theorem dX3_firstToTurn_50 : decode cX3_firstToTurn 50 = .ok (.ireturn, 1) := by decide +kernel
set_option maxRecDepth 20000 in
theorem ggX3_turningWith_X3_courseOf : GoodIn wsX3_turningWith wsX3_courseOf := goodIn_r _ [6, 7, 8, 35, 36, 37, 38, 39, 40, 41, 42] (by decide +kernel) (by decide +kernel)
set_option maxRecDepth 20000 in
theorem gX3_turningWith_X3_courseOf : GoodIn wsX3_turningWith (wsV RX3 142 RX3 yX3_courseOf wsX3_courseOf) := goodIn_app (goodIn_of _ (by decide +kernel)) ggX3_turningWith_X3_courseOf
set_option maxRecDepth 20000 in
theorem ggX3_turningWith_X0_turnsBefore : GoodIn wsX3_turningWith wsX0_turnsBefore := goodIn_r _ [13, 14, 15, 16, 12, 17, 18, 19, 20, 21, 22, 23, 24, 25, 26, 27, 28, 29, 30, 31, 32, 33, 34] (by decide +kernel) (by decide +kernel)
set_option maxRecDepth 20000 in
theorem gX3_turningWith_X0_turnsBefore : GoodIn wsX3_turningWith (wsV RX3 334 RX0 yX0_turnsBefore wsX0_turnsBefore) := goodIn_app (goodIn_of _ (by decide +kernel)) ggX3_turningWith_X0_turnsBefore
theorem dX3_turningWith_0 : decode cX3_turningWith 0 = .ok (.aload_n 0, 1) := by decide +kernel
theorem dX3_turningWith_1 : decode cX3_turningWith 1 = .ok (.iload_n 1, 1) := by decide +kernel
theorem dX3_turningWith_2 : decode cX3_turningWith 2 = .ok (.invokevirtual 142, 3) := by decide +kernel
theorem dX3_turningWith_5 : decode cX3_turningWith 5 = .ok (.astore_n 2, 1) := by decide +kernel
theorem dX3_turningWith_6 : decode cX3_turningWith 6 = .ok (.iconst 0, 1) := by decide +kernel
theorem dX3_turningWith_7 : decode cX3_turningWith 7 = .ok (.istore_n 3, 1) := by decide +kernel
theorem dX3_turningWith_8 : decode cX3_turningWith 8 = .ok (.iconst 1, 1) := by decide +kernel
theorem dX3_turningWith_9 : decode cX3_turningWith 9 = .ok (.istore 4, 2) := by decide +kernel
theorem dX3_turningWith_11 : decode cX3_turningWith 11 = .ok (.iload 4, 2) := by decide +kernel
theorem dX3_turningWith_13 : decode cX3_turningWith 13 = .ok (.bipush 15, 2) := by decide +kernel
theorem dX3_turningWith_15 : decode cX3_turningWith 15 = .ok (.if_icmp .gt 38, 3) := by decide +kernel
theorem dX3_turningWith_18 : decode cX3_turningWith 18 = .ok (.aload_n 0, 1) := by decide +kernel
theorem dX3_turningWith_19 : decode cX3_turningWith 19 = .ok (.iload 4, 2) := by decide +kernel
theorem dX3_turningWith_21 : decode cX3_turningWith 21 = .ok (.invokevirtual 142, 3) := by decide +kernel
theorem dX3_turningWith_24 : decode cX3_turningWith 24 = .ok (.astore 5, 2) := by decide +kernel
theorem dX3_turningWith_26 : decode cX3_turningWith 26 = .ok (.aload 5, 2) := by decide +kernel
theorem dX3_turningWith_28 : decode cX3_turningWith 28 = .ok (.getfield 244, 3) := by decide +kernel
theorem dX3_turningWith_31 : decode cX3_turningWith 31 = .ok (.iconst 1, 1) := by decide +kernel
theorem dX3_turningWith_32 : decode cX3_turningWith 32 = .ok (.if_icmp .le 15, 3) := by decide +kernel
theorem dX3_turningWith_35 : decode cX3_turningWith 35 = .ok (.aload_n 2, 1) := by decide +kernel
theorem dX3_turningWith_36 : decode cX3_turningWith 36 = .ok (.aload 5, 2) := by decide +kernel
theorem dX3_turningWith_38 : decode cX3_turningWith 38 = .ok (.invokevirtual 334, 3) := by decide +kernel
theorem dX3_turningWith_41 : decode cX3_turningWith 41 = .ok (.ifCond .ne 6, 3) := by decide +kernel
theorem dX3_turningWith_44 : decode cX3_turningWith 44 = .ok (.iinc 3 1, 3) := by decide +kernel
theorem dX3_turningWith_47 : decode cX3_turningWith 47 = .ok (.iinc 4 1, 3) := by decide +kernel
theorem dX3_turningWith_50 : decode cX3_turningWith 50 = .ok (.goto (-39), 3) := by decide +kernel
theorem dX3_turningWith_53 : decode cX3_turningWith 53 = .ok (.iload_n 3, 1) := by decide +kernel
theorem dX3_turningWith_54 : decode cX3_turningWith 54 = .ok (.ireturn, 1) := by decide +kernel
set_option maxRecDepth 20000 in
theorem ggX3_letPass_X3_save : GoodIn wsX3_letPass wsX3_save := goodIn_r _ [6, 7, 8, 1, 9, 10, 11, 5, 12, 13, 14, 15, 16, 17, 18, 19, 20, 21, 22, 23, 24, 25, 26, 103, 104, 105, 106, 107, 108, 109, 110, 111, 112, 113, 114, 115, 116, 117, 118] (by decide +kernel) (by decide +kernel)
set_option maxRecDepth 20000 in
theorem gX3_letPass_X3_save : GoodIn wsX3_letPass (wsV RX3 75 RX3 yX3_save wsX3_save) := goodIn_app (goodIn_of _ (by decide +kernel)) ggX3_letPass_X3_save
set_option maxRecDepth 20000 in
theorem ggX3_letPass_X3_courseOf : GoodIn wsX3_letPass wsX3_courseOf := goodIn_r _ [30, 31, 32, 103, 104, 105, 106, 107, 108, 109, 110] (by decide +kernel) (by decide +kernel)
set_option maxRecDepth 20000 in
theorem gX3_letPass_X3_courseOf : GoodIn wsX3_letPass (wsV RX3 142 RX3 yX3_courseOf wsX3_courseOf) := goodIn_app (goodIn_of _ (by decide +kernel)) ggX3_letPass_X3_courseOf
set_option maxRecDepth 20000 in
theorem ggX3_letPass_X0_turnsWithin : GoodIn wsX3_letPass wsX0_turnsWithin := goodIn_r _ [37, 38, 39, 40, 119, 120, 121, 122, 123, 124] (by decide +kernel) (by decide +kernel)
set_option maxRecDepth 20000 in
theorem gX3_letPass_X0_turnsWithin : GoodIn wsX3_letPass (wsV RX3 254 RX0 yX0_turnsWithin wsX0_turnsWithin) := goodIn_app (goodIn_of _ (by decide +kernel)) ggX3_letPass_X0_turnsWithin
set_option maxRecDepth 20000 in
theorem ggX3_letPass_X1_countTurns : GoodIn wsX3_letPass wsX1_countTurns := goodIn_r _ [44, 23, 45, 5, 46, 111, 112, 113, 114, 115, 116, 117, 118] (by decide +kernel) (by decide +kernel)
set_option maxRecDepth 20000 in
theorem gX3_letPass_X1_countTurns : GoodIn wsX3_letPass (wsV RX3 338 RX1 yX1_countTurns wsX1_countTurns) := goodIn_app (goodIn_of _ (by decide +kernel)) ggX3_letPass_X1_countTurns
set_option maxRecDepth 20000 in
theorem ggX3_letPass_X1_moveOn : GoodIn wsX3_letPass wsX1_moveOn := goodIn_r _ [50, 20, 21, 24, 111, 112, 113, 114, 115, 116, 117, 118] (by decide +kernel) (by decide +kernel)
set_option maxRecDepth 20000 in
theorem gX3_letPass_X1_moveOn : GoodIn wsX3_letPass (wsV RX3 341 RX1 yX1_moveOn wsX1_moveOn) := goodIn_app (goodIn_of _ (by decide +kernel)) ggX3_letPass_X1_moveOn
set_option maxRecDepth 20000 in
theorem ggX3_letPass_X3_foresee : GoodIn wsX3_letPass wsX3_foresee := goodIn_r _ [54, 1, 27, 28, 29, 5, 30, 31, 32, 55, 56, 57, 36, 58, 38, 59, 60, 61, 62, 63, 17, 64, 65, 66, 67, 68, 19, 69, 70, 71, 72, 21, 73, 74, 75, 76, 77, 78, 79, 80, 20, 81, 82, 83, 84, 25, 85, 86, 87, 88, 89, 39, 40, 90, 91, 92, 93, 94, 95, 96, 97, 98, 99, 100, 101, 102, 103, 104, 105, 106, 107, 108, 109, 110, 119, 120, 121, 122, 123, 124, 111, 112, 113, 114, 115, 116, 117, 118] (by decide +kernel) (by decide +kernel)
set_option maxRecDepth 20000 in
theorem gX3_letPass_X3_foresee : GoodIn wsX3_letPass (wsV RX3 82 RX3 yX3_foresee wsX3_foresee) := goodIn_app (goodIn_of _ (by decide +kernel)) ggX3_letPass_X3_foresee
theorem dX3_letPass_0 : decode cX3_letPass 0 = .ok (.aload_n 0, 1) := by decide +kernel
theorem dX3_letPass_1 : decode cX3_letPass 1 = .ok (.invokevirtual 75, 3) := by decide +kernel
theorem dX3_letPass_4 : decode cX3_letPass 4 = .ok (.iconst 0, 1) := by decide +kernel
theorem dX3_letPass_5 : decode cX3_letPass 5 = .ok (.istore_n 2, 1) := by decide +kernel
theorem dX3_letPass_6 : decode cX3_letPass 6 = .ok (.iconst 1, 1) := by decide +kernel
theorem dX3_letPass_7 : decode cX3_letPass 7 = .ok (.istore_n 3, 1) := by decide +kernel
theorem dX3_letPass_8 : decode cX3_letPass 8 = .ok (.iload_n 3, 1) := by decide +kernel
theorem dX3_letPass_9 : decode cX3_letPass 9 = .ok (.bipush 15, 2) := by decide +kernel
theorem dX3_letPass_11 : decode cX3_letPass 11 = .ok (.if_icmp .gt 35, 3) := by decide +kernel
theorem dX3_letPass_14 : decode cX3_letPass 14 = .ok (.aload_n 0, 1) := by decide +kernel
theorem dX3_letPass_15 : decode cX3_letPass 15 = .ok (.iload_n 3, 1) := by decide +kernel
theorem dX3_letPass_16 : decode cX3_letPass 16 = .ok (.invokevirtual 142, 3) := by decide +kernel
theorem dX3_letPass_19 : decode cX3_letPass 19 = .ok (.iload_n 1, 1) := by decide +kernel
theorem dX3_letPass_20 : decode cX3_letPass 20 = .ok (.invokevirtual 254, 3) := by decide +kernel
theorem dX3_letPass_23 : decode cX3_letPass 23 = .ok (.istore 4, 2) := by decide +kernel
theorem dX3_letPass_25 : decode cX3_letPass 25 = .ok (.aload_n 0, 1) := by decide +kernel
theorem dX3_letPass_26 : decode cX3_letPass 26 = .ok (.getfield 12, 3) := by decide +kernel
theorem dX3_letPass_29 : decode cX3_letPass 29 = .ok (.iload_n 3, 1) := by decide +kernel
theorem dX3_letPass_30 : decode cX3_letPass 30 = .ok (.iload 4, 2) := by decide +kernel
theorem dX3_letPass_32 : decode cX3_letPass 32 = .ok (.invokevirtual 338, 3) := by decide +kernel
theorem dX3_letPass_35 : decode cX3_letPass 35 = .ok (.iload_n 2, 1) := by decide +kernel
theorem dX3_letPass_36 : decode cX3_letPass 36 = .ok (.iload 4, 2) := by decide +kernel
theorem dX3_letPass_38 : decode cX3_letPass 38 = .ok (.iadd, 1) := by decide +kernel
theorem dX3_letPass_39 : decode cX3_letPass 39 = .ok (.istore_n 2, 1) := by decide +kernel
theorem dX3_letPass_40 : decode cX3_letPass 40 = .ok (.iinc 3 1, 3) := by decide +kernel
theorem dX3_letPass_43 : decode cX3_letPass 43 = .ok (.goto (-35), 3) := by decide +kernel
theorem dX3_letPass_46 : decode cX3_letPass 46 = .ok (.aload_n 0, 1) := by decide +kernel
theorem dX3_letPass_47 : decode cX3_letPass 47 = .ok (.getfield 12, 3) := by decide +kernel
theorem dX3_letPass_50 : decode cX3_letPass 50 = .ok (.iload_n 1, 1) := by decide +kernel
theorem dX3_letPass_51 : decode cX3_letPass 51 = .ok (.invokevirtual 341, 3) := by decide +kernel
theorem dX3_letPass_54 : decode cX3_letPass 54 = .ok (.aload_n 0, 1) := by decide +kernel
theorem dX3_letPass_55 : decode cX3_letPass 55 = .ok (.invokevirtual 82, 3) := by decide +kernel
theorem dX3_letPass_58 : decode cX3_letPass 58 = .ok (.iload_n 2, 1) := by decide +kernel
theorem dX3_letPass_59 : decode cX3_letPass 59 = .ok (.ireturn, 1) := by decide +kernel
theorem dX3_isWithin_0 : decode cX3_isWithin 0 = .ok (.iload_n 0, 1) := by decide +kernel
theorem dX3_isWithin_1 : decode cX3_isWithin 1 = .ok (.iload_n 1, 1) := by decide +kernel
theorem dX3_isWithin_2 : decode cX3_isWithin 2 = .ok (.if_icmp .lt 12, 3) := by decide +kernel
theorem dX3_isWithin_5 : decode cX3_isWithin 5 = .ok (.iload_n 0, 1) := by decide +kernel
theorem dX3_isWithin_6 : decode cX3_isWithin 6 = .ok (.iload_n 2, 1) := by decide +kernel
theorem dX3_isWithin_7 : decode cX3_isWithin 7 = .ok (.if_icmp .gt 7, 3) := by decide +kernel
theorem dX3_isWithin_10 : decode cX3_isWithin 10 = .ok (.iconst 1, 1) := by decide +kernel
theorem dX3_isWithin_11 : decode cX3_isWithin 11 = .ok (.goto 4, 3) := by decide +kernel
theorem dX3_isWithin_14 : decode cX3_isWithin 14 = .ok (.iconst 0, 1) := by decide +kernel
theorem dX3_isWithin_15 : decode cX3_isWithin 15 = .ok (.ireturn, 1) := by decide +kernel
set_option maxRecDepth 20000 in
theorem ggX3_isSlot_X3_isWithin : GoodIn wsX3_isSlot wsX3_isWithin := goodIn_r _ [4] (by decide +kernel) (by decide +kernel)
set_option maxRecDepth 20000 in
theorem gX3_isSlot_X3_isWithin : GoodIn wsX3_isSlot (va_wsS RX3 51 yX3_isWithin wsX3_isWithin) := goodIn_app (goodIn_of _ (by decide +kernel)) ggX3_isSlot_X3_isWithin
theorem dX3_isSlot_0 : decode cX3_isSlot 0 = .ok (.iload_n 0, 1) := by decide +kernel
theorem dX3_isSlot_1 : decode cX3_isSlot 1 = .ok (.iconst 0, 1) := by decide +kernel
theorem dX3_isSlot_2 : decode cX3_isSlot 2 = .ok (.bipush 15, 2) := by decide +kernel
theorem dX3_isSlot_4 : decode cX3_isSlot 4 = .ok (.invokestatic 51, 3) := by decide +kernel
theorem dX3_isSlot_7 : decode cX3_isSlot 7 = .ok (.ireturn, 1) := by decide +kernel
set_option maxRecDepth 20000 in
theorem ggX3_isSpeed_X3_isWithin : GoodIn wsX3_isSpeed wsX3_isWithin := goodIn_r _ [4] (by decide +kernel) (by decide +kernel)
set_option maxRecDepth 20000 in
theorem gX3_isSpeed_X3_isWithin : GoodIn wsX3_isSpeed (va_wsS RX3 51 yX3_isWithin wsX3_isWithin) := goodIn_app (goodIn_of _ (by decide +kernel)) ggX3_isSpeed_X3_isWithin
theorem dX3_isSpeed_0 : decode cX3_isSpeed 0 = .ok (.iload_n 0, 1) := by decide +kernel
theorem dX3_isSpeed_1 : decode cX3_isSpeed 1 = .ok (.bipush (-99), 2) := by decide +kernel
theorem dX3_isSpeed_3 : decode cX3_isSpeed 3 = .ok (.bipush 99, 2) := by decide +kernel
theorem dX3_isSpeed_5 : decode cX3_isSpeed 5 = .ok (.invokestatic 51, 3) := by decide +kernel
theorem dX3_isSpeed_8 : decode cX3_isSpeed 8 = .ok (.ireturn, 1) := by decide +kernel
theorem dX3_reduced_0 : decode cX3_reduced 0 = .ok (.iload_n 0, 1) := by decide +kernel
theorem dX3_reduced_1 : decode cX3_reduced 1 = .ok (.istore_n 2, 1) := by decide +kernel
theorem dX3_reduced_2 : decode cX3_reduced 2 = .ok (.iload_n 1, 1) := by decide +kernel
theorem dX3_reduced_3 : decode cX3_reduced 3 = .ok (.istore_n 3, 1) := by decide +kernel
theorem dX3_reduced_4 : decode cX3_reduced 4 = .ok (.iconst 0, 1) := by decide +kernel
theorem dX3_reduced_5 : decode cX3_reduced 5 = .ok (.istore 4, 2) := by decide +kernel
theorem dX3_reduced_7 : decode cX3_reduced 7 = .ok (.iload 4, 2) := by decide +kernel
theorem dX3_reduced_9 : decode cX3_reduced 9 = .ok (.bipush 64, 2) := by decide +kernel
theorem dX3_reduced_11 : decode cX3_reduced 11 = .ok (.if_icmp .ge 23, 3) := by decide +kernel
theorem dX3_reduced_14 : decode cX3_reduced 14 = .ok (.iload_n 3, 1) := by decide +kernel
theorem dX3_reduced_15 : decode cX3_reduced 15 = .ok (.ifCond .le 19, 3) := by decide +kernel
theorem dX3_reduced_18 : decode cX3_reduced 18 = .ok (.iload_n 2, 1) := by decide +kernel
theorem dX3_reduced_19 : decode cX3_reduced 19 = .ok (.iload_n 3, 1) := by decide +kernel
theorem dX3_reduced_20 : decode cX3_reduced 20 = .ok (.irem, 1) := by decide +kernel
theorem dX3_reduced_21 : decode cX3_reduced 21 = .ok (.istore 5, 2) := by decide +kernel
theorem dX3_reduced_23 : decode cX3_reduced 23 = .ok (.iload_n 3, 1) := by decide +kernel
theorem dX3_reduced_24 : decode cX3_reduced 24 = .ok (.istore_n 2, 1) := by decide +kernel
theorem dX3_reduced_25 : decode cX3_reduced 25 = .ok (.iload 5, 2) := by decide +kernel
theorem dX3_reduced_27 : decode cX3_reduced 27 = .ok (.istore_n 3, 1) := by decide +kernel
theorem dX3_reduced_28 : decode cX3_reduced 28 = .ok (.iinc 4 1, 3) := by decide +kernel
theorem dX3_reduced_31 : decode cX3_reduced 31 = .ok (.goto (-24), 3) := by decide +kernel
theorem dX3_reduced_34 : decode cX3_reduced 34 = .ok (.iload_n 2, 1) := by decide +kernel
theorem dX3_reduced_35 : decode cX3_reduced 35 = .ok (.iconst 1, 1) := by decide +kernel
theorem dX3_reduced_36 : decode cX3_reduced 36 = .ok (.if_icmp .le 9, 3) := by decide +kernel
theorem dX3_reduced_39 : decode cX3_reduced 39 = .ok (.iload_n 0, 1) := by decide +kernel
theorem dX3_reduced_40 : decode cX3_reduced 40 = .ok (.iload_n 2, 1) := by decide +kernel
theorem dX3_reduced_41 : decode cX3_reduced 41 = .ok (.idiv, 1) := by decide +kernel
theorem dX3_reduced_42 : decode cX3_reduced 42 = .ok (.goto 4, 3) := by decide +kernel
theorem dX3_reduced_45 : decode cX3_reduced 45 = .ok (.iload_n 0, 1) := by decide +kernel
theorem dX3_reduced_46 : decode cX3_reduced 46 = .ok (.ireturn, 1) := by decide +kernel
