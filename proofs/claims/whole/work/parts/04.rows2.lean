set_option maxRecDepth 20000 in
theorem ggX3_winsOf_X3_winnerOf : GoodIn wsX3_winsOf wsX3_winnerOf := goodIn_r _ [5, 6, 7, 8, 4, 9, 10, 11, 12, 13, 14, 15, 16, 17, 18, 19, 20, 21, 22, 23, 24, 25, 26, 27, 28, 29, 30, 31, 32, 33, 34, 35, 36] (by decide +kernel) (by decide +kernel)
set_option maxRecDepth 20000 in
theorem gX3_winsOf_X3_winnerOf : GoodIn wsX3_winsOf (wsV RX3 123 RX3 yX3_winnerOf wsX3_winnerOf) := goodIn_app (goodIn_of _ (by decide +kernel)) ggX3_winsOf_X3_winnerOf
theorem dX3_winsOf_0 : decode cX3_winsOf 0 = .ok (.iconst 0, 1) := by decide +kernel
theorem dX3_winsOf_1 : decode cX3_winsOf 1 = .ok (.istore_n 2, 1) := by decide +kernel
theorem dX3_winsOf_2 : decode cX3_winsOf 2 = .ok (.iconst 1, 1) := by decide +kernel
theorem dX3_winsOf_3 : decode cX3_winsOf 3 = .ok (.istore_n 3, 1) := by decide +kernel
theorem dX3_winsOf_4 : decode cX3_winsOf 4 = .ok (.iload_n 3, 1) := by decide +kernel
theorem dX3_winsOf_5 : decode cX3_winsOf 5 = .ok (.bipush 15, 2) := by decide +kernel
theorem dX3_winsOf_7 : decode cX3_winsOf 7 = .ok (.if_icmp .gt 21, 3) := by decide +kernel
theorem dX3_winsOf_10 : decode cX3_winsOf 10 = .ok (.aload_n 0, 1) := by decide +kernel
theorem dX3_winsOf_11 : decode cX3_winsOf 11 = .ok (.iload_n 3, 1) := by decide +kernel
theorem dX3_winsOf_12 : decode cX3_winsOf 12 = .ok (.invokevirtual 123, 3) := by decide +kernel
theorem dX3_winsOf_15 : decode cX3_winsOf 15 = .ok (.iload_n 1, 1) := by decide +kernel
theorem dX3_winsOf_16 : decode cX3_winsOf 16 = .ok (.if_icmp .ne 6, 3) := by decide +kernel
theorem dX3_winsOf_19 : decode cX3_winsOf 19 = .ok (.iinc 2 1, 3) := by decide +kernel
theorem dX3_winsOf_22 : decode cX3_winsOf 22 = .ok (.iinc 3 1, 3) := by decide +kernel
theorem dX3_winsOf_25 : decode cX3_winsOf 25 = .ok (.goto (-21), 3) := by decide +kernel
theorem dX3_winsOf_28 : decode cX3_winsOf 28 = .ok (.iload_n 2, 1) := by decide +kernel
theorem dX3_winsOf_29 : decode cX3_winsOf 29 = .ok (.ireturn, 1) := by decide +kernel
set_option maxRecDepth 20000 in
theorem ggX3_firstToTurn_X3_courseOf : GoodIn wsX3_firstToTurn wsX3_courseOf := goodIn_r _ [6, 7, 8, 35, 36, 37, 38, 39, 40, 41, 42] (by decide +kernel) (by decide +kernel)
set_option maxRecDepth 20000 in
theorem gX3_firstToTurn_X3_courseOf : GoodIn wsX3_firstToTurn (wsV RX3 142 RX3 yX3_courseOf wsX3_courseOf) := goodIn_app (goodIn_of _ (by decide +kernel)) ggX3_firstToTurn_X3_courseOf
set_option maxRecDepth 20000 in
theorem ggX3_firstToTurn_X0_turnsBefore : GoodIn wsX3_firstToTurn wsX0_turnsBefore := goodIn_r _ [13, 14, 15, 16, 12, 17, 18, 19, 20, 21, 22, 23, 24, 25, 26, 27, 28, 29, 30, 31, 32, 33, 34] (by decide +kernel) (by decide +kernel)
set_option maxRecDepth 20000 in
theorem gX3_firstToTurn_X0_turnsBefore : GoodIn wsX3_firstToTurn (wsV RX3 334 RX0 yX0_turnsBefore wsX0_turnsBefore) := goodIn_app (goodIn_of _ (by decide +kernel)) ggX3_firstToTurn_X0_turnsBefore
theorem dX3_firstToTurn_0 : decode cX3_firstToTurn 0 = .ok (.iconst (-1), 1) := by decide +kernel
theorem dX3_firstToTurn_1 : decode cX3_firstToTurn 1 = .ok (.istore_n 1, 1) := by decide +kernel
theorem dX3_firstToTurn_2 : decode cX3_firstToTurn 2 = .ok (.iconst 1, 1) := by decide +kernel
theorem dX3_firstToTurn_3 : decode cX3_firstToTurn 3 = .ok (.istore_n 2, 1) := by decide +kernel
theorem dX3_firstToTurn_4 : decode cX3_firstToTurn 4 = .ok (.iload_n 2, 1) := by decide +kernel
theorem dX3_firstToTurn_5 : decode cX3_firstToTurn 5 = .ok (.bipush 15, 2) := by decide +kernel
theorem dX3_firstToTurn_7 : decode cX3_firstToTurn 7 = .ok (.if_icmp .gt 42, 3) := by decide +kernel
theorem dX3_firstToTurn_10 : decode cX3_firstToTurn 10 = .ok (.aload_n 0, 1) := by decide +kernel
theorem dX3_firstToTurn_11 : decode cX3_firstToTurn 11 = .ok (.iload_n 2, 1) := by decide +kernel
theorem dX3_firstToTurn_12 : decode cX3_firstToTurn 12 = .ok (.invokevirtual 142, 3) := by decide +kernel
theorem dX3_firstToTurn_15 : decode cX3_firstToTurn 15 = .ok (.astore_n 3, 1) := by decide +kernel
theorem dX3_firstToTurn_16 : decode cX3_firstToTurn 16 = .ok (.aload_n 3, 1) := by decide +kernel
theorem dX3_firstToTurn_17 : decode cX3_firstToTurn 17 = .ok (.getfield 244, 3) := by decide +kernel
theorem dX3_firstToTurn_20 : decode cX3_firstToTurn 20 = .ok (.iconst 1, 1) := by decide +kernel
theorem dX3_firstToTurn_21 : decode cX3_firstToTurn 21 = .ok (.if_icmp .le 22, 3) := by decide +kernel
theorem dX3_firstToTurn_24 : decode cX3_firstToTurn 24 = .ok (.iload_n 1, 1) := by decide +kernel
theorem dX3_firstToTurn_25 : decode cX3_firstToTurn 25 = .ok (.iconst (-1), 1) := by decide +kernel
theorem dX3_firstToTurn_26 : decode cX3_firstToTurn 26 = .ok (.if_icmp .eq 15, 3) := by decide +kernel
theorem dX3_firstToTurn_29 : decode cX3_firstToTurn 29 = .ok (.aload_n 3, 1) := by decide +kernel
theorem dX3_firstToTurn_30 : decode cX3_firstToTurn 30 = .ok (.aload_n 0, 1) := by decide +kernel
theorem dX3_firstToTurn_31 : decode cX3_firstToTurn 31 = .ok (.iload_n 1, 1) := by decide +kernel
theorem dX3_firstToTurn_32 : decode cX3_firstToTurn 32 = .ok (.invokevirtual 142, 3) := by decide +kernel
theorem dX3_firstToTurn_35 : decode cX3_firstToTurn 35 = .ok (.invokevirtual 334, 3) := by decide +kernel
theorem dX3_firstToTurn_38 : decode cX3_firstToTurn 38 = .ok (.ifCond .eq 5, 3) := by decide +kernel
theorem dX3_firstToTurn_41 : decode cX3_firstToTurn 41 = .ok (.iload_n 2, 1) := by decide +kernel
theorem dX3_firstToTurn_42 : decode cX3_firstToTurn 42 = .ok (.istore_n 1, 1) := by decide +kernel
theorem dX3_firstToTurn_43 : decode cX3_firstToTurn 43 = .ok (.iinc 2 1, 3) := by decide +kernel
theorem dX3_firstToTurn_46 : decode cX3_firstToTurn 46 = .ok (.goto (-42), 3) := by decide +kernel
theorem dX3_firstToTurn_49 : decode cX3_firstToTurn 49 = .ok (.iload_n 1, 1) := by decide +kernel
theorem dX3_firstToTurn_50 : decode cX3_firstToTurn 50 = .ok (.ireturn, 1) := by decide +kernel
set_option maxRecDepth 20000 in
theorem ggX3_turningWith_X3_courseOf : GoodIn wsX3_turningWith wsX3_courseOf := goodIn_r _ [6, 7, 8, 35, 36, 37, 38, 39, 40, 41, 42] (by decide +kernel) (by decide +kernel)
set_option maxRecDepth 20000 in
theorem gX3_turningWith_X3_courseOf : GoodIn wsX3_turningWith (wsV RX3 142 RX3 yX3_courseOf wsX3_courseOf) := goodIn_app (goodIn_of _ (by decide +kernel)) ggX3_turningWith_X3_courseOf
set_option maxRecDepth 20000 in
theorem ggX3_turningWith_X0_turnsBefore : GoodIn wsX3_turningWith wsX0_turnsBefore := goodIn_r _ [13, 14, 15, 16, 12, 17, 18, 19, 20, 21, 22, 23, 24, 25, 26, 27, 28, 29, 30, 31, 32, 33, 34] (by decide +kernel) (by decide +kernel)
set_option maxRecDepth 20000 in
theorem gX3_turningWith_X0_turnsBefore : GoodIn wsX3_turningWith (wsV RX3 334 RX0 yX0_turnsBefore wsX0_turnsBefore) := goodIn_app (goodIn_of _ (by decide +kernel)) ggX3_turningWith_X0_turnsBefore
theorem dX3_turningWith_0 : decode cX3_turningWith 0 = .ok (.aload_n 0, 1) := by decide +kernel
theorem dX3_turningWith_1 : decode cX3_turningWith 1 = .ok (.iload_n 1, 1) := by decide +kernel
theorem dX3_turningWith_2 : decode cX3_turningWith 2 = .ok (.invokevirtual 142, 3) := by decide +kernel
theorem dX3_turningWith_5 : decode cX3_turningWith 5 = .ok (.astore_n 2, 1) := by decide +kernel
theorem dX3_turningWith_6 : decode cX3_turningWith 6 = .ok (.iconst 0, 1) := by decide +kernel
theorem dX3_turningWith_7 : decode cX3_turningWith 7 = .ok (.istore_n 3, 1) := by decide +kernel
theorem dX3_turningWith_8 : decode cX3_turningWith 8 = .ok (.iconst 1, 1) := by decide +kernel
theorem dX3_turningWith_9 : decode cX3_turningWith 9 = .ok (.istore 4, 2) := by decide +kernel
theorem dX3_turningWith_11 : decode cX3_turningWith 11 = .ok (.iload 4, 2) := by decide +kernel
theorem dX3_turningWith_13 : decode cX3_turningWith 13 = .ok (.bipush 15, 2) := by decide +kernel
theorem dX3_turningWith_15 : decode cX3_turningWith 15 = .ok (.if_icmp .gt 38, 3) := by decide +kernel
theorem dX3_turningWith_18 : decode cX3_turningWith 18 = .ok (.aload_n 0, 1) := by decide +kernel
theorem dX3_turningWith_19 : decode cX3_turningWith 19 = .ok (.iload 4, 2) := by decide +kernel
theorem dX3_turningWith_21 : decode cX3_turningWith 21 = .ok (.invokevirtual 142, 3) := by decide +kernel
theorem dX3_turningWith_24 : decode cX3_turningWith 24 = .ok (.astore 5, 2) := by decide +kernel
theorem dX3_turningWith_26 : decode cX3_turningWith 26 = .ok (.aload 5, 2) := by decide +kernel
theorem dX3_turningWith_28 : decode cX3_turningWith 28 = .ok (.getfield 244, 3) := by decide +kernel
theorem dX3_turningWith_31 : decode cX3_turningWith 31 = .ok (.iconst 1, 1) := by decide +kernel
theorem dX3_turningWith_32 : decode cX3_turningWith 32 = .ok (.if_icmp .le 15, 3) := by decide +kernel
theorem dX3_turningWith_35 : decode cX3_turningWith 35 = .ok (.aload_n 2, 1) := by decide +kernel
theorem dX3_turningWith_36 : decode cX3_turningWith 36 = .ok (.aload 5, 2) := by decide +kernel
theorem dX3_turningWith_38 : decode cX3_turningWith 38 = .ok (.invokevirtual 334, 3) := by decide +kernel
theorem dX3_turningWith_41 : decode cX3_turningWith 41 = .ok (.ifCond .ne 6, 3) := by decide +kernel
theorem dX3_turningWith_44 : decode cX3_turningWith 44 = .ok (.iinc 3 1, 3) := by decide +kernel
theorem dX3_turningWith_47 : decode cX3_turningWith 47 = .ok (.iinc 4 1, 3) := by decide +kernel
theorem dX3_turningWith_50 : decode cX3_turningWith 50 = .ok (.goto (-39), 3) := by decide +kernel
theorem dX3_turningWith_53 : decode cX3_turningWith 53 = .ok (.iload_n 3, 1) := by decide +kernel
theorem dX3_turningWith_54 : decode cX3_turningWith 54 = .ok (.ireturn, 1) := by decide +kernel
set_option maxRecDepth 20000 in
theorem ggX3_letPass_X3_save : GoodIn wsX3_letPass wsX3_save := goodIn_r _ [6, 7, 8, 1, 9, 10, 11, 5, 12, 13, 14, 15, 16, 17, 18, 19, 20, 21, 22, 23, 24, 25, 26, 103, 104, 105, 106, 107, 108, 109, 110, 111, 112, 113, 114, 115, 116, 117, 118] (by decide +kernel) (by decide +kernel)
set_option maxRecDepth 20000 in
theorem gX3_letPass_X3_save : GoodIn wsX3_letPass (wsV RX3 75 RX3 yX3_save wsX3_save) := goodIn_app (goodIn_of _ (by decide +kernel)) ggX3_letPass_X3_save
set_option maxRecDepth 20000 in
theorem ggX3_letPass_X3_courseOf : GoodIn wsX3_letPass wsX3_courseOf := goodIn_r _ [30, 31, 32, 103, 104, 105, 106, 107, 108, 109, 110] (by decide +kernel) (by decide +kernel)
set_option maxRecDepth 20000 in
theorem gX3_letPass_X3_courseOf : GoodIn wsX3_letPass (wsV RX3 142 RX3 yX3_courseOf wsX3_courseOf) := goodIn_app (goodIn_of _ (by decide +kernel)) ggX3_letPass_X3_courseOf
set_option maxRecDepth 20000 in
theorem ggX3_letPass_X0_turnsWithin : GoodIn wsX3_letPass wsX0_turnsWithin := goodIn_r _ [37, 38, 39, 40, 119, 120, 121, 122, 123, 124] (by decide +kernel) (by decide +kernel)
set_option maxRecDepth 20000 in
theorem gX3_letPass_X0_turnsWithin : GoodIn wsX3_letPass (wsV RX3 254 RX0 yX0_turnsWithin wsX0_turnsWithin) := goodIn_app (goodIn_of _ (by decide +kernel)) ggX3_letPass_X0_turnsWithin
set_option maxRecDepth 20000 in
theorem ggX3_letPass_X1_countTurns : GoodIn wsX3_letPass wsX1_countTurns := goodIn_r _ [44, 23, 45, 5, 46, 111, 112, 113, 114, 115, 116, 117, 118] (by decide +kernel) (by decide +kernel)
set_option maxRecDepth 20000 in
theorem gX3_letPass_X1_countTurns : GoodIn wsX3_letPass (wsV RX3 338 RX1 yX1_countTurns wsX1_countTurns) := goodIn_app (goodIn_of _ (by decide +kernel)) ggX3_letPass_X1_countTurns
set_option maxRecDepth 20000 in
theorem ggX3_letPass_X1_moveOn : GoodIn wsX3_letPass wsX1_moveOn := goodIn_r _ [50, 20, 21, 24, 111, 112, 113, 114, 115, 116, 117, 118] (by decide +kernel) (by decide +kernel)
set_option maxRecDepth 20000 in
theorem gX3_letPass_X1_moveOn : GoodIn wsX3_letPass (wsV RX3 341 RX1 yX1_moveOn wsX1_moveOn) := goodIn_app (goodIn_of _ (by decide +kernel)) ggX3_letPass_X1_moveOn
set_option maxRecDepth 20000 in
theorem ggX3_letPass_X3_foresee : GoodIn wsX3_letPass wsX3_foresee := goodIn_r _ [54, 1, 27, 28, 29, 5, 30, 31, 32, 55, 56, 57, 36, 58, 38, 59, 60, 61, 62, 63, 17, 64, 65, 66, 67, 68, 19, 69, 70, 71, 72, 21, 73, 74, 75, 76, 77, 78, 79, 80, 20, 81, 82, 83, 84, 25, 85, 86, 87, 88, 89, 39, 40, 90, 91, 92, 93, 94, 95, 96, 97, 98, 99, 100, 101, 102, 103, 104, 105, 106, 107, 108, 109, 110, 119, 120, 121, 122, 123, 124, 111, 112, 113, 114, 115, 116, 117, 118] (by decide +kernel) (by decide +kernel)
set_option maxRecDepth 20000 in
theorem gX3_letPass_X3_foresee : GoodIn wsX3_letPass (wsV RX3 82 RX3 yX3_foresee wsX3_foresee) := goodIn_app (goodIn_of _ (by decide +kernel)) ggX3_letPass_X3_foresee
theorem dX3_letPass_0 : decode cX3_letPass 0 = .ok (.aload_n 0, 1) := by decide +kernel
theorem dX3_letPass_1 : decode cX3_letPass 1 = .ok (.invokevirtual 75, 3) := by decide +kernel
theorem dX3_letPass_4 : decode cX3_letPass 4 = .ok (.iconst 0, 1) := by decide +kernel
theorem dX3_letPass_5 : decode cX3_letPass 5 = .ok (.istore_n 2, 1) := by decide +kernel
theorem dX3_letPass_6 : decode cX3_letPass 6 = .ok (.iconst 1, 1) := by decide +kernel
theorem dX3_letPass_7 : decode cX3_letPass 7 = .ok (.istore_n 3, 1) := by decide +kernel
theorem dX3_letPass_8 : decode cX3_letPass 8 = .ok (.iload_n 3, 1) := by decide +kernel
theorem dX3_letPass_9 : decode cX3_letPass 9 = .ok (.bipush 15, 2) := by decide +kernel
theorem dX3_letPass_11 : decode cX3_letPass 11 = .ok (.if_icmp .gt 35, 3) := by decide +kernel
theorem dX3_letPass_14 : decode cX3_letPass 14 = .ok (.aload_n 0, 1) := by decide +kernel
theorem dX3_letPass_15 : decode cX3_letPass 15 = .ok (.iload_n 3, 1) := by decide +kernel
theorem dX3_letPass_16 : decode cX3_letPass 16 = .ok (.invokevirtual 142, 3) := by decide +kernel
theorem dX3_letPass_19 : decode cX3_letPass 19 = .ok (.iload_n 1, 1) := by decide +kernel
theorem dX3_letPass_20 : decode cX3_letPass 20 = .ok (.invokevirtual 254, 3) := by decide +kernel
theorem dX3_letPass_23 : decode cX3_letPass 23 = .ok (.istore 4, 2) := by decide +kernel
theorem dX3_letPass_25 : decode cX3_letPass 25 = .ok (.aload_n 0, 1) := by decide +kernel
theorem dX3_letPass_26 : decode cX3_letPass 26 = .ok (.getfield 12, 3) := by decide +kernel
theorem dX3_letPass_29 : decode cX3_letPass 29 = .ok (.iload_n 3, 1) := by decide +kernel
theorem dX3_letPass_30 : decode cX3_letPass 30 = .ok (.iload 4, 2) := by decide +kernel
theorem dX3_letPass_32 : decode cX3_letPass 32 = .ok (.invokevirtual 338, 3) := by decide +kernel
theorem dX3_letPass_35 : decode cX3_letPass 35 = .ok (.iload_n 2, 1) := by decide +kernel
theorem dX3_letPass_36 : decode cX3_letPass 36 = .ok (.iload 4, 2) := by decide +kernel
theorem dX3_letPass_38 : decode cX3_letPass 38 = .ok (.iadd, 1) := by decide +kernel
theorem dX3_letPass_39 : decode cX3_letPass 39 = .ok (.istore_n 2, 1) := by decide +kernel
theorem dX3_letPass_40 : decode cX3_letPass 40 = .ok (.iinc 3 1, 3) := by decide +kernel
theorem dX3_letPass_43 : decode cX3_letPass 43 = .ok (.goto (-35), 3) := by decide +kernel
theorem dX3_letPass_46 : decode cX3_letPass 46 = .ok (.aload_n 0, 1) := by decide +kernel
theorem dX3_letPass_47 : decode cX3_letPass 47 = .ok (.getfield 12, 3) := by decide +kernel
theorem dX3_letPass_50 : decode cX3_letPass 50 = .ok (.iload_n 1, 1) := by decide +kernel
theorem dX3_letPass_51 : decode cX3_letPass 51 = .ok (.invokevirtual 341, 3) := by decide +kernel
theorem dX3_letPass_54 : decode cX3_letPass 54 = .ok (.aload_n 0, 1) := by decide +kernel
theorem dX3_letPass_55 : decode cX3_letPass 55 = .ok (.invokevirtual 82, 3) := by decide +kernel
theorem dX3_letPass_58 : decode cX3_letPass 58 = .ok (.iload_n 2, 1) := by decide +kernel
theorem dX3_letPass_59 : decode cX3_letPass 59 = .ok (.ireturn, 1) := by decide +kernel
set_option maxRecDepth 20000 in
theorem ggX3_leastSpeedAgainst_J9_floorDiv_7cf53 : GoodIn wsX3_leastSpeedAgainst wsJ9_floorDiv_7cf53 := goodIn_r _ [5] (by decide +kernel) (by decide +kernel)
set_option maxRecDepth 20000 in
theorem gX3_leastSpeedAgainst_J9_floorDiv_7cf53 : GoodIn wsX3_leastSpeedAgainst (va_wsS RX3 344 yJ9_floorDiv_7cf53 wsJ9_floorDiv_7cf53) := goodIn_app (goodIn_of _ (by decide +kernel)) ggX3_leastSpeedAgainst_J9_floorDiv_7cf53
set_option maxRecDepth 20000 in
theorem ggX3_leastSpeedAgainst_X1_wouldBeAhead : GoodIn wsX3_leastSpeedAgainst wsX1_wouldBeAhead := goodIn_r _ [10, 11, 12, 13, 9, 14, 15, 16, 17, 18, 19, 20, 21, 22, 23, 24, 25, 34, 35, 36, 37, 38, 39, 40, 41] (by decide +kernel) (by decide +kernel)
set_option maxRecDepth 20000 in
theorem gX3_leastSpeedAgainst_X1_wouldBeAhead : GoodIn wsX3_leastSpeedAgainst (wsV RX3 349 RX1 yX1_wouldBeAhead wsX1_wouldBeAhead) := goodIn_app (goodIn_of _ (by decide +kernel)) ggX3_leastSpeedAgainst_X1_wouldBeAhead
theorem dX3_leastSpeedAgainst_0 : decode cX3_leastSpeedAgainst 0 = .ok (.bipush (-99), 2) := by decide +kernel
theorem dX3_leastSpeedAgainst_2 : decode cX3_leastSpeedAgainst 2 = .ok (.istore 4, 2) := by decide +kernel
theorem dX3_leastSpeedAgainst_4 : decode cX3_leastSpeedAgainst 4 = .ok (.bipush 100, 2) := by decide +kernel
theorem dX3_leastSpeedAgainst_6 : decode cX3_leastSpeedAgainst 6 = .ok (.istore 5, 2) := by decide +kernel
theorem dX3_leastSpeedAgainst_8 : decode cX3_leastSpeedAgainst 8 = .ok (.iconst 0, 1) := by decide +kernel
theorem dX3_leastSpeedAgainst_9 : decode cX3_leastSpeedAgainst 9 = .ok (.istore 6, 2) := by decide +kernel
theorem dX3_leastSpeedAgainst_11 : decode cX3_leastSpeedAgainst 11 = .ok (.iload 6, 2) := by decide +kernel
theorem dX3_leastSpeedAgainst_13 : decode cX3_leastSpeedAgainst 13 = .ok (.sipush 198, 3) := by decide +kernel
theorem dX3_leastSpeedAgainst_16 : decode cX3_leastSpeedAgainst 16 = .ok (.if_icmp .ge 55, 3) := by decide +kernel
theorem dX3_leastSpeedAgainst_19 : decode cX3_leastSpeedAgainst 19 = .ok (.iload 4, 2) := by decide +kernel
theorem dX3_leastSpeedAgainst_21 : decode cX3_leastSpeedAgainst 21 = .ok (.iload 5, 2) := by decide +kernel
theorem dX3_leastSpeedAgainst_23 : decode cX3_leastSpeedAgainst 23 = .ok (.if_icmp .ge 48, 3) := by decide +kernel
theorem dX3_leastSpeedAgainst_26 : decode cX3_leastSpeedAgainst 26 = .ok (.iload 4, 2) := by decide +kernel
theorem dX3_leastSpeedAgainst_28 : decode cX3_leastSpeedAgainst 28 = .ok (.iload 5, 2) := by decide +kernel
theorem dX3_leastSpeedAgainst_30 : decode cX3_leastSpeedAgainst 30 = .ok (.iadd, 1) := by decide +kernel
theorem dX3_leastSpeedAgainst_31 : decode cX3_leastSpeedAgainst 31 = .ok (.iconst 2, 1) := by decide +kernel
theorem dX3_leastSpeedAgainst_32 : decode cX3_leastSpeedAgainst 32 = .ok (.invokestatic 344, 3) := by decide +kernel
theorem dX3_leastSpeedAgainst_35 : decode cX3_leastSpeedAgainst 35 = .ok (.istore 7, 2) := by decide +kernel
theorem dX3_leastSpeedAgainst_37 : decode cX3_leastSpeedAgainst 37 = .ok (.aload_n 0, 1) := by decide +kernel
theorem dX3_leastSpeedAgainst_38 : decode cX3_leastSpeedAgainst 38 = .ok (.getfield 12, 3) := by decide +kernel
theorem dX3_leastSpeedAgainst_41 : decode cX3_leastSpeedAgainst 41 = .ok (.iload_n 2, 1) := by decide +kernel
theorem dX3_leastSpeedAgainst_42 : decode cX3_leastSpeedAgainst 42 = .ok (.iload 7, 2) := by decide +kernel
theorem dX3_leastSpeedAgainst_44 : decode cX3_leastSpeedAgainst 44 = .ok (.iload_n 1, 1) := by decide +kernel
theorem dX3_leastSpeedAgainst_45 : decode cX3_leastSpeedAgainst 45 = .ok (.iload_n 3, 1) := by decide +kernel
theorem dX3_leastSpeedAgainst_46 : decode cX3_leastSpeedAgainst 46 = .ok (.invokevirtual 349, 3) := by decide +kernel
theorem dX3_leastSpeedAgainst_49 : decode cX3_leastSpeedAgainst 49 = .ok (.ifCond .eq 10, 3) := by decide +kernel
theorem dX3_leastSpeedAgainst_52 : decode cX3_leastSpeedAgainst 52 = .ok (.iload 7, 2) := by decide +kernel
theorem dX3_leastSpeedAgainst_54 : decode cX3_leastSpeedAgainst 54 = .ok (.istore 5, 2) := by decide +kernel
theorem dX3_leastSpeedAgainst_56 : decode cX3_leastSpeedAgainst 56 = .ok (.goto 9, 3) := by decide +kernel
theorem dX3_leastSpeedAgainst_59 : decode cX3_leastSpeedAgainst 59 = .ok (.iload 7, 2) := by decide +kernel
theorem dX3_leastSpeedAgainst_61 : decode cX3_leastSpeedAgainst 61 = .ok (.iconst 1, 1) := by decide +kernel
theorem dX3_leastSpeedAgainst_62 : decode cX3_leastSpeedAgainst 62 = .ok (.iadd, 1) := by decide +kernel
theorem dX3_leastSpeedAgainst_63 : decode cX3_leastSpeedAgainst 63 = .ok (.istore 4, 2) := by decide +kernel
theorem dX3_leastSpeedAgainst_65 : decode cX3_leastSpeedAgainst 65 = .ok (.iinc 6 1, 3) := by decide +kernel
theorem dX3_leastSpeedAgainst_68 : decode cX3_leastSpeedAgainst 68 = .ok (.goto (-57), 3) := by decide +kernel
theorem dX3_leastSpeedAgainst_71 : decode cX3_leastSpeedAgainst 71 = .ok (.iload 4, 2) := by decide +kernel
theorem dX3_leastSpeedAgainst_73 : decode cX3_leastSpeedAgainst 73 = .ok (.bipush 99, 2) := by decide +kernel
theorem dX3_leastSpeedAgainst_75 : decode cX3_leastSpeedAgainst 75 = .ok (.if_icmp .le 8, 3) := by decide +kernel
theorem dX3_leastSpeedAgainst_78 : decode cX3_leastSpeedAgainst 78 = .ok (.bipush (-100), 2) := by decide +kernel
theorem dX3_leastSpeedAgainst_80 : decode cX3_leastSpeedAgainst 80 = .ok (.goto 5, 3) := by decide +kernel
theorem dX3_leastSpeedAgainst_83 : decode cX3_leastSpeedAgainst 83 = .ok (.iload 4, 2) := by decide +kernel
theorem dX3_leastSpeedAgainst_85 : decode cX3_leastSpeedAgainst 85 = .ok (.ireturn, 1) := by decide +kernel
theorem dX3_isWithin_0 : decode cX3_isWithin 0 = .ok (.iload_n 0, 1) := by decide +kernel
theorem dX3_isWithin_1 : decode cX3_isWithin 1 = .ok (.iload_n 1, 1) := by decide +kernel
theorem dX3_isWithin_2 : decode cX3_isWithin 2 = .ok (.if_icmp .lt 12, 3) := by decide +kernel
theorem dX3_isWithin_5 : decode cX3_isWithin 5 = .ok (.iload_n 0, 1) := by decide +kernel
theorem dX3_isWithin_6 : decode cX3_isWithin 6 = .ok (.iload_n 2, 1) := by decide +kernel
theorem dX3_isWithin_7 : decode cX3_isWithin 7 = .ok (.if_icmp .gt 7, 3) := by decide +kernel
theorem dX3_isWithin_10 : decode cX3_isWithin 10 = .ok (.iconst 1, 1) := by decide +kernel
theorem dX3_isWithin_11 : decode cX3_isWithin 11 = .ok (.goto 4, 3) := by decide +kernel
theorem dX3_isWithin_14 : decode cX3_isWithin 14 = .ok (.iconst 0, 1) := by decide +kernel
theorem dX3_isWithin_15 : decode cX3_isWithin 15 = .ok (.ireturn, 1) := by decide +kernel
set_option maxRecDepth 20000 in
theorem ggX3_isSlot_X3_isWithin : GoodIn wsX3_isSlot wsX3_isWithin := goodIn_r _ [4] (by decide +kernel) (by decide +kernel)
set_option maxRecDepth 20000 in
theorem gX3_isSlot_X3_isWithin : GoodIn wsX3_isSlot (va_wsS RX3 51 yX3_isWithin wsX3_isWithin) := goodIn_app (goodIn_of _ (by decide +kernel)) ggX3_isSlot_X3_isWithin
theorem dX3_isSlot_0 : decode cX3_isSlot 0 = .ok (.iload_n 0, 1) := by decide +kernel
theorem dX3_isSlot_1 : decode cX3_isSlot 1 = .ok (.iconst 0, 1) := by decide +kernel
theorem dX3_isSlot_2 : decode cX3_isSlot 2 = .ok (.bipush 15, 2) := by decide +kernel
theorem dX3_isSlot_4 : decode cX3_isSlot 4 = .ok (.invokestatic 51, 3) := by decide +kernel
theorem dX3_isSlot_7 : decode cX3_isSlot 7 = .ok (.ireturn, 1) := by decide +kernel
set_option maxRecDepth 20000 in
theorem ggX3_isSpeed_X3_isWithin : GoodIn wsX3_isSpeed wsX3_isWithin := goodIn_r _ [4] (by decide +kernel) (by decide +kernel)
set_option maxRecDepth 20000 in
theorem gX3_isSpeed_X3_isWithin : GoodIn wsX3_isSpeed (va_wsS RX3 51 yX3_isWithin wsX3_isWithin) := goodIn_app (goodIn_of _ (by decide +kernel)) ggX3_isSpeed_X3_isWithin
theorem dX3_isSpeed_0 : decode cX3_isSpeed 0 = .ok (.iload_n 0, 1) := by decide +kernel
theorem dX3_isSpeed_1 : decode cX3_isSpeed 1 = .ok (.bipush (-99), 2) := by decide +kernel
theorem dX3_isSpeed_3 : decode cX3_isSpeed 3 = .ok (.bipush 99, 2) := by decide +kernel
theorem dX3_isSpeed_5 : decode cX3_isSpeed 5 = .ok (.invokestatic 51, 3) := by decide +kernel
theorem dX3_isSpeed_8 : decode cX3_isSpeed 8 = .ok (.ireturn, 1) := by decide +kernel
theorem dX3_reduced_0 : decode cX3_reduced 0 = .ok (.iload_n 0, 1) := by decide +kernel
theorem dX3_reduced_1 : decode cX3_reduced 1 = .ok (.istore_n 2, 1) := by decide +kernel
theorem dX3_reduced_2 : decode cX3_reduced 2 = .ok (.iload_n 1, 1) := by decide +kernel
theorem dX3_reduced_3 : decode cX3_reduced 3 = .ok (.istore_n 3, 1) := by decide +kernel
theorem dX3_reduced_4 : decode cX3_reduced 4 = .ok (.iconst 0, 1) := by decide +kernel
theorem dX3_reduced_5 : decode cX3_reduced 5 = .ok (.istore 4, 2) := by decide +kernel
theorem dX3_reduced_7 : decode cX3_reduced 7 = .ok (.iload 4, 2) := by decide +kernel
theorem dX3_reduced_9 : decode cX3_reduced 9 = .ok (.bipush 64, 2) := by decide +kernel
theorem dX3_reduced_11 : decode cX3_reduced 11 = .ok (.if_icmp .ge 23, 3) := by decide +kernel
theorem dX3_reduced_14 : decode cX3_reduced 14 = .ok (.iload_n 3, 1) := by decide +kernel
theorem dX3_reduced_15 : decode cX3_reduced 15 = .ok (.ifCond .le 19, 3) := by decide +kernel
theorem dX3_reduced_18 : decode cX3_reduced 18 = .ok (.iload_n 2, 1) := by decide +kernel
theorem dX3_reduced_19 : decode cX3_reduced 19 = .ok (.iload_n 3, 1) := by decide +kernel
theorem dX3_reduced_20 : decode cX3_reduced 20 = .ok (.irem, 1) := by decide +kernel
theorem dX3_reduced_21 : decode cX3_reduced 21 = .ok (.istore 5, 2) := by decide +kernel
theorem dX3_reduced_23 : decode cX3_reduced 23 = .ok (.iload_n 3, 1) := by decide +kernel
theorem dX3_reduced_24 : decode cX3_reduced 24 = .ok (.istore_n 2, 1) := by decide +kernel
theorem dX3_reduced_25 : decode cX3_reduced 25 = .ok (.iload 5, 2) := by decide +kernel
theorem dX3_reduced_27 : decode cX3_reduced 27 = .ok (.istore_n 3, 1) := by decide +kernel
theorem dX3_reduced_28 : decode cX3_reduced 28 = .ok (.iinc 4 1, 3) := by decide +kernel
theorem dX3_reduced_31 : decode cX3_reduced 31 = .ok (.goto (-24), 3) := by decide +kernel
theorem dX3_reduced_34 : decode cX3_reduced 34 = .ok (.iload_n 2, 1) := by decide +kernel
theorem dX3_reduced_35 : decode cX3_reduced 35 = .ok (.iconst 1, 1) := by decide +kernel
theorem dX3_reduced_36 : decode cX3_reduced 36 = .ok (.if_icmp .le 9, 3) := by decide +kernel
theorem dX3_reduced_39 : decode cX3_reduced 39 = .ok (.iload_n 0, 1) := by decide +kernel
theorem dX3_reduced_40 : decode cX3_reduced 40 = .ok (.iload_n 2, 1) := by decide +kernel
theorem dX3_reduced_41 : decode cX3_reduced 41 = .ok (.idiv, 1) := by decide +kernel
theorem dX3_reduced_42 : decode cX3_reduced 42 = .ok (.goto 4, 3) := by decide +kernel
theorem dX3_reduced_45 : decode cX3_reduced 45 = .ok (.iload_n 0, 1) := by decide +kernel
theorem dX3_reduced_46 : decode cX3_reduced 46 = .ok (.ireturn, 1) := by decide +kernel
theorem dX4_init_0 : decode cX4_init 0 = .ok (.aload_n 0, 1) := by decide +kernel
theorem dX4_init_1 : decode cX4_init 1 = .ok (.invokespecial 1, 3) := by decide +kernel
theorem dX4_init_4 : decode cX4_init 4 = .ok (.aload_n 0, 1) := by decide +kernel
theorem dX4_init_5 : decode cX4_init 5 = .ok (.bipush 84, 2) := by decide +kernel
theorem dX4_init_7 : decode cX4_init 7 = .ok (.newarray .int, 2) := by decide +kernel
theorem dX4_init_9 : decode cX4_init 9 = .ok (.putfield 7, 3) := by decide +kernel
theorem dX4_init_12 : decode cX4_init 12 = .ok (.aload_n 0, 1) := by decide +kernel
theorem dX4_init_13 : decode cX4_init 13 = .ok (.sipush 504, 3) := by decide +kernel
theorem dX4_init_16 : decode cX4_init 16 = .ok (.newarray .int, 2) := by decide +kernel
theorem dX4_init_18 : decode cX4_init 18 = .ok (.putfield 13, 3) := by decide +kernel
theorem dX4_init_21 : decode cX4_init 21 = .ok (.aload_n 0, 1) := by decide +kernel
theorem dX4_init_22 : decode cX4_init 22 = .ok (.bipush 60, 2) := by decide +kernel
theorem dX4_init_24 : decode cX4_init 24 = .ok (.newarray .int, 2) := by decide +kernel
theorem dX4_init_26 : decode cX4_init 26 = .ok (.putfield 16, 3) := by decide +kernel
theorem dX4_init_29 : decode cX4_init 29 = .ok (.aload_n 0, 1) := by decide +kernel
theorem dX4_init_30 : decode cX4_init 30 = .ok (.bipush 16, 2) := by decide +kernel
theorem dX4_init_32 : decode cX4_init 32 = .ok (.newarray .int, 2) := by decide +kernel
theorem dX4_init_34 : decode cX4_init 34 = .ok (.putfield 19, 3) := by decide +kernel
theorem dX4_init_37 : decode cX4_init 37 = .ok (.aload_n 0, 1) := by decide +kernel
theorem dX4_init_38 : decode cX4_init 38 = .ok (.bipush 44, 2) := by decide +kernel
theorem dX4_init_40 : decode cX4_init 40 = .ok (.newarray .int, 2) := by decide +kernel
theorem dX4_init_42 : decode cX4_init 42 = .ok (.putfield 22, 3) := by decide +kernel
theorem dX4_init_45 : decode cX4_init 45 = .ok (.aload_n 0, 1) := by decide +kernel
theorem dX4_init_46 : decode cX4_init 46 = .ok (.bipush 16, 2) := by decide +kernel
theorem dX4_init_48 : decode cX4_init 48 = .ok (.newarray .int, 2) := by decide +kernel
theorem dX4_init_50 : decode cX4_init 50 = .ok (.putfield 25, 3) := by decide +kernel
theorem dX4_init_53 : decode cX4_init 53 = .ok (.aload_n 0, 1) := by decide +kernel
theorem dX4_init_54 : decode cX4_init 54 = .ok (.bipush 16, 2) := by decide +kernel
theorem dX4_init_56 : decode cX4_init 56 = .ok (.newarray .int, 2) := by decide +kernel
theorem dX4_init_58 : decode cX4_init 58 = .ok (.putfield 28, 3) := by decide +kernel
theorem dX4_init_61 : decode cX4_init 61 = .ok (.aload_n 0, 1) := by decide +kernel
theorem dX4_init_62 : decode cX4_init 62 = .ok (.bipush 16, 2) := by decide +kernel
theorem dX4_init_64 : decode cX4_init 64 = .ok (.newarray .int, 2) := by decide +kernel
theorem dX4_init_66 : decode cX4_init 66 = .ok (.putfield 31, 3) := by decide +kernel
theorem dX4_init_69 : decode cX4_init 69 = .ok (.aload_n 0, 1) := by decide +kernel
theorem dX4_init_70 : decode cX4_init 70 = .ok (.getfield 7, 3) := by decide +kernel
theorem dX4_init_73 : decode cX4_init 73 = .ok (.iconst 2, 1) := by decide +kernel
theorem dX4_init_74 : decode cX4_init 74 = .ok (.bipush 50, 2) := by decide +kernel
theorem dX4_init_76 : decode cX4_init 76 = .ok (.iastore, 1) := by decide +kernel
theorem dX4_init_77 : decode cX4_init 77 = .ok (.return_, 1) := by decide +kernel
theorem dX4_thrown_0 : decode cX4_thrown 0 = .ok (.aload_n 0, 1) := by decide +kernel
theorem dX4_thrown_1 : decode cX4_thrown 1 = .ok (.getfield 34, 3) := by decide +kernel
theorem dX4_thrown_4 : decode cX4_thrown 4 = .ok (.ireturn, 1) := by decide +kernel
theorem dX4_fails_0 : decode cX4_fails 0 = .ok (.aload_n 0, 1) := by decide +kernel
theorem dX4_fails_1 : decode cX4_fails 1 = .ok (.iload_n 1, 1) := by decide +kernel
theorem dX4_fails_2 : decode cX4_fails 2 = .ok (.putfield 34, 3) := by decide +kernel
theorem dX4_fails_5 : decode cX4_fails 5 = .ok (.iconst 0, 1) := by decide +kernel
theorem dX4_fails_6 : decode cX4_fails 6 = .ok (.ireturn, 1) := by decide +kernel
theorem dX4_in_0 : decode cX4_in 0 = .ok (.iload_n 0, 1) := by decide +kernel
theorem dX4_in_1 : decode cX4_in 1 = .ok (.iload_n 1, 1) := by decide +kernel
theorem dX4_in_2 : decode cX4_in 2 = .ok (.if_icmp .lt 12, 3) := by decide +kernel
theorem dX4_in_5 : decode cX4_in 5 = .ok (.iload_n 0, 1) := by decide +kernel
theorem dX4_in_6 : decode cX4_in 6 = .ok (.iload_n 2, 1) := by decide +kernel
theorem dX4_in_7 : decode cX4_in 7 = .ok (.if_icmp .gt 7, 3) := by decide +kernel
theorem dX4_in_10 : decode cX4_in 10 = .ok (.iconst 1, 1) := by decide +kernel
theorem dX4_in_11 : decode cX4_in 11 = .ok (.goto 4, 3) := by decide +kernel
theorem dX4_in_14 : decode cX4_in 14 = .ok (.iconst 0, 1) := by decide +kernel
theorem dX4_in_15 : decode cX4_in 15 = .ok (.ireturn, 1) := by decide +kernel
theorem dX4_save_0 : decode cX4_save 0 = .ok (.aload_n 0, 1) := by decide +kernel
theorem dX4_save_1 : decode cX4_save 1 = .ok (.getfield 38, 3) := by decide +kernel
theorem dX4_save_4 : decode cX4_save 4 = .ok (.bipush 6, 2) := by decide +kernel
theorem dX4_save_6 : decode cX4_save 6 = .ok (.if_icmp .ne 43, 3) := by decide +kernel
theorem dX4_save_9 : decode cX4_save 9 = .ok (.iconst 0, 1) := by decide +kernel
theorem dX4_save_10 : decode cX4_save 10 = .ok (.istore_n 1, 1) := by decide +kernel
theorem dX4_save_11 : decode cX4_save 11 = .ok (.iload_n 1, 1) := by decide +kernel
theorem dX4_save_12 : decode cX4_save 12 = .ok (.sipush 420, 3) := by decide +kernel
theorem dX4_save_15 : decode cX4_save 15 = .ok (.if_icmp .ge 24, 3) := by decide +kernel
theorem dX4_save_18 : decode cX4_save 18 = .ok (.aload_n 0, 1) := by decide +kernel
theorem dX4_save_19 : decode cX4_save 19 = .ok (.getfield 13, 3) := by decide +kernel
theorem dX4_save_22 : decode cX4_save 22 = .ok (.iload_n 1, 1) := by decide +kernel
theorem dX4_save_23 : decode cX4_save 23 = .ok (.aload_n 0, 1) := by decide +kernel
theorem dX4_save_24 : decode cX4_save 24 = .ok (.getfield 13, 3) := by decide +kernel
theorem dX4_save_27 : decode cX4_save 27 = .ok (.iload_n 1, 1) := by decide +kernel
theorem dX4_save_28 : decode cX4_save 28 = .ok (.bipush 84, 2) := by decide +kernel
theorem dX4_save_30 : decode cX4_save 30 = .ok (.iadd, 1) := by decide +kernel
theorem dX4_save_31 : decode cX4_save 31 = .ok (.iaload, 1) := by decide +kernel
theorem dX4_save_32 : decode cX4_save 32 = .ok (.iastore, 1) := by decide +kernel
theorem dX4_save_33 : decode cX4_save 33 = .ok (.iinc 1 1, 3) := by decide +kernel
theorem dX4_save_36 : decode cX4_save 36 = .ok (.goto (-25), 3) := by decide +kernel
theorem dX4_save_39 : decode cX4_save 39 = .ok (.aload_n 0, 1) := by decide +kernel
theorem dX4_save_40 : decode cX4_save 40 = .ok (.dup, 1) := by decide +kernel
theorem dX4_save_41 : decode cX4_save 41 = .ok (.getfield 38, 3) := by decide +kernel
theorem dX4_save_44 : decode cX4_save 44 = .ok (.iconst 1, 1) := by decide +kernel
theorem dX4_save_45 : decode cX4_save 45 = .ok (.isub, 1) := by decide +kernel
theorem dX4_save_46 : decode cX4_save 46 = .ok (.putfield 38, 3) := by decide +kernel
theorem dX4_save_49 : decode cX4_save 49 = .ok (.iconst 0, 1) := by decide +kernel
theorem dX4_save_50 : decode cX4_save 50 = .ok (.istore_n 1, 1) := by decide +kernel
theorem dX4_save_51 : decode cX4_save 51 = .ok (.iload_n 1, 1) := by decide +kernel
theorem dX4_save_52 : decode cX4_save 52 = .ok (.bipush 84, 2) := by decide +kernel
theorem dX4_save_54 : decode cX4_save 54 = .ok (.if_icmp .ge 29, 3) := by decide +kernel
theorem dX4_save_57 : decode cX4_save 57 = .ok (.aload_n 0, 1) := by decide +kernel
theorem dX4_save_58 : decode cX4_save 58 = .ok (.getfield 13, 3) := by decide +kernel
theorem dX4_save_61 : decode cX4_save 61 = .ok (.bipush 84, 2) := by decide +kernel
theorem dX4_save_63 : decode cX4_save 63 = .ok (.aload_n 0, 1) := by decide +kernel
theorem dX4_save_64 : decode cX4_save 64 = .ok (.getfield 38, 3) := by decide +kernel
theorem dX4_save_67 : decode cX4_save 67 = .ok (.imul, 1) := by decide +kernel
theorem dX4_save_68 : decode cX4_save 68 = .ok (.iload_n 1, 1) := by decide +kernel
theorem dX4_save_69 : decode cX4_save 69 = .ok (.iadd, 1) := by decide +kernel
theorem dX4_save_70 : decode cX4_save 70 = .ok (.aload_n 0, 1) := by decide +kernel
theorem dX4_save_71 : decode cX4_save 71 = .ok (.getfield 7, 3) := by decide +kernel
theorem dX4_save_74 : decode cX4_save 74 = .ok (.iload_n 1, 1) := by decide +kernel
theorem dX4_save_75 : decode cX4_save 75 = .ok (.iaload, 1) := by decide +kernel
theorem dX4_save_76 : decode cX4_save 76 = .ok (.iastore, 1) := by decide +kernel
theorem dX4_save_77 : decode cX4_save 77 = .ok (.iinc 1 1, 3) := by decide +kernel
theorem dX4_save_80 : decode cX4_save 80 = .ok (.goto (-29), 3) := by decide +kernel
theorem dX4_save_83 : decode cX4_save 83 = .ok (.aload_n 0, 1) := by decide +kernel
theorem dX4_save_84 : decode cX4_save 84 = .ok (.dup, 1) := by decide +kernel
theorem dX4_save_85 : decode cX4_save 85 = .ok (.getfield 38, 3) := by decide +kernel
theorem dX4_save_88 : decode cX4_save 88 = .ok (.iconst 1, 1) := by decide +kernel
theorem dX4_save_89 : decode cX4_save 89 = .ok (.iadd, 1) := by decide +kernel
theorem dX4_save_90 : decode cX4_save 90 = .ok (.putfield 38, 3) := by decide +kernel
theorem dX4_save_93 : decode cX4_save 93 = .ok (.return_, 1) := by decide +kernel
theorem dX4_at_0 : decode cX4_at 0 = .ok (.bipush 20, 2) := by decide +kernel
theorem dX4_at_2 : decode cX4_at 2 = .ok (.iconst 4, 1) := by decide +kernel
theorem dX4_at_3 : decode cX4_at 3 = .ok (.iload_n 0, 1) := by decide +kernel
theorem dX4_at_4 : decode cX4_at 4 = .ok (.imul, 1) := by decide +kernel
theorem dX4_at_5 : decode cX4_at 5 = .ok (.iadd, 1) := by decide +kernel
theorem dX4_at_6 : decode cX4_at 6 = .ok (.ireturn, 1) := by decide +kernel
set_option maxRecDepth 20000 in
theorem ggX4_has_X4_at : GoodIn wsX4_has wsX4_at := goodIn_r _ [5] (by decide +kernel) (by decide +kernel)
set_option maxRecDepth 20000 in
theorem gX4_has_X4_at : GoodIn wsX4_has (va_wsS RX4 41 yX4_at wsX4_at) := goodIn_app (goodIn_of _ (by decide +kernel)) ggX4_has_X4_at
theorem dX4_has_0 : decode cX4_has 0 = .ok (.aload_n 0, 1) := by decide +kernel
theorem dX4_has_1 : decode cX4_has 1 = .ok (.getfield 7, 3) := by decide +kernel
theorem dX4_has_4 : decode cX4_has 4 = .ok (.iload_n 1, 1) := by decide +kernel
theorem dX4_has_5 : decode cX4_has 5 = .ok (.invokestatic 41, 3) := by decide +kernel
theorem dX4_has_8 : decode cX4_has 8 = .ok (.iaload, 1) := by decide +kernel
theorem dX4_has_9 : decode cX4_has 9 = .ok (.iconst 1, 1) := by decide +kernel
theorem dX4_has_10 : decode cX4_has 10 = .ok (.if_icmp .ne 7, 3) := by decide +kernel
theorem dX4_has_13 : decode cX4_has 13 = .ok (.iconst 1, 1) := by decide +kernel
theorem dX4_has_14 : decode cX4_has 14 = .ok (.goto 4, 3) := by decide +kernel
theorem dX4_has_17 : decode cX4_has 17 = .ok (.iconst 0, 1) := by decide +kernel
theorem dX4_has_18 : decode cX4_has 18 = .ok (.ireturn, 1) := by decide +kernel
set_option maxRecDepth 20000 in
theorem ggX4_isMover_X4_in : GoodIn wsX4_isMover wsX4_in := goodIn_r _ [4] (by decide +kernel) (by decide +kernel)
set_option maxRecDepth 20000 in
theorem gX4_isMover_X4_in : GoodIn wsX4_isMover (va_wsS RX4 45 yX4_in wsX4_in) := goodIn_app (goodIn_of _ (by decide +kernel)) ggX4_isMover_X4_in
set_option maxRecDepth 20000 in
theorem ggX4_isMover_X4_has : GoodIn wsX4_isMover wsX4_has := goodIn_r _ [8, 9, 10, 11, 3, 12, 13, 14, 15, 16, 17, 18, 19, 20, 21, 22, 23, 24, 25, 26, 27, 28, 29, 30, 31, 32, 33, 34] (by decide +kernel) (by decide +kernel)
set_option maxRecDepth 20000 in
theorem gX4_isMover_X4_has : GoodIn wsX4_isMover (wsV RX4 49 RX4 yX4_has wsX4_has) := goodIn_app (goodIn_of _ (by decide +kernel)) ggX4_isMover_X4_has
theorem dX4_isMover_0 : decode cX4_isMover 0 = .ok (.iload_n 1, 1) := by decide +kernel
theorem dX4_isMover_1 : decode cX4_isMover 1 = .ok (.iconst 0, 1) := by decide +kernel
theorem dX4_isMover_2 : decode cX4_isMover 2 = .ok (.bipush 15, 2) := by decide +kernel
theorem dX4_isMover_4 : decode cX4_isMover 4 = .ok (.invokestatic 45, 3) := by decide +kernel
theorem dX4_isMover_7 : decode cX4_isMover 7 = .ok (.ifCond .eq 15, 3) := by decide +kernel
theorem dX4_isMover_10 : decode cX4_isMover 10 = .ok (.aload_n 0, 1) := by decide +kernel
theorem dX4_isMover_11 : decode cX4_isMover 11 = .ok (.iload_n 1, 1) := by decide +kernel
theorem dX4_isMover_12 : decode cX4_isMover 12 = .ok (.invokevirtual 49, 3) := by decide +kernel
theorem dX4_isMover_15 : decode cX4_isMover 15 = .ok (.ifCond .eq 7, 3) := by decide +kernel
theorem dX4_isMover_18 : decode cX4_isMover 18 = .ok (.iconst 1, 1) := by decide +kernel
theorem dX4_isMover_19 : decode cX4_isMover 19 = .ok (.goto 4, 3) := by decide +kernel
theorem dX4_isMover_22 : decode cX4_isMover 22 = .ok (.iconst 0, 1) := by decide +kernel
theorem dX4_isMover_23 : decode cX4_isMover 23 = .ok (.ireturn, 1) := by decide +kernel
theorem dX4_slotsOf_0 : decode cX4_slotsOf 0 = .ok (.iload_n 0, 1) := by decide +kernel
theorem dX4_slotsOf_1 : decode cX4_slotsOf 1 = .ok (.iconst 1, 1) := by decide +kernel
theorem dX4_slotsOf_2 : decode cX4_slotsOf 2 = .ok (.if_icmp .ne 8, 3) := by decide +kernel
theorem dX4_slotsOf_5 : decode cX4_slotsOf 5 = .ok (.bipush 16, 2) := by decide +kernel
theorem dX4_slotsOf_7 : decode cX4_slotsOf 7 = .ok (.goto 24, 3) := by decide +kernel
theorem dX4_slotsOf_10 : decode cX4_slotsOf 10 = .ok (.iload_n 0, 1) := by decide +kernel
theorem dX4_slotsOf_11 : decode cX4_slotsOf 11 = .ok (.iconst 4, 1) := by decide +kernel
theorem dX4_slotsOf_12 : decode cX4_slotsOf 12 = .ok (.if_icmp .ge 8, 3) := by decide +kernel
theorem dX4_slotsOf_15 : decode cX4_slotsOf 15 = .ok (.bipush 8, 2) := by decide +kernel
theorem dX4_slotsOf_17 : decode cX4_slotsOf 17 = .ok (.goto 14, 3) := by decide +kernel
theorem dX4_slotsOf_20 : decode cX4_slotsOf 20 = .ok (.iload_n 0, 1) := by decide +kernel
theorem dX4_slotsOf_21 : decode cX4_slotsOf 21 = .ok (.bipush 8, 2) := by decide +kernel
theorem dX4_slotsOf_23 : decode cX4_slotsOf 23 = .ok (.if_icmp .ge 7, 3) := by decide +kernel
theorem dX4_slotsOf_26 : decode cX4_slotsOf 26 = .ok (.iconst 4, 1) := by decide +kernel
theorem dX4_slotsOf_27 : decode cX4_slotsOf 27 = .ok (.goto 4, 3) := by decide +kernel
theorem dX4_slotsOf_30 : decode cX4_slotsOf 30 = .ok (.iconst 2, 1) := by decide +kernel
theorem dX4_slotsOf_31 : decode cX4_slotsOf 31 = .ok (.ireturn, 1) := by decide +kernel
set_option maxRecDepth 20000 in
theorem ggX4_firstOf_X4_slotsOf : GoodIn wsX4_firstOf wsX4_slotsOf := goodIn_r _ [4] (by decide +kernel) (by decide +kernel)
set_option maxRecDepth 20000 in
theorem gX4_firstOf_X4_slotsOf : GoodIn wsX4_firstOf (va_wsS RX4 53 yX4_slotsOf wsX4_slotsOf) := goodIn_app (goodIn_of _ (by decide +kernel)) ggX4_firstOf_X4_slotsOf
theorem dX4_firstOf_0 : decode cX4_firstOf 0 = .ok (.iload_n 0, 1) := by decide +kernel
theorem dX4_firstOf_1 : decode cX4_firstOf 1 = .ok (.invokestatic 53, 3) := by decide +kernel
theorem dX4_firstOf_4 : decode cX4_firstOf 4 = .ok (.istore_n 1, 1) := by decide +kernel
theorem dX4_firstOf_5 : decode cX4_firstOf 5 = .ok (.iload_n 0, 1) := by decide +kernel
theorem dX4_firstOf_6 : decode cX4_firstOf 6 = .ok (.bipush 16, 2) := by decide +kernel
theorem dX4_firstOf_8 : decode cX4_firstOf 8 = .ok (.iload_n 1, 1) := by decide +kernel
theorem dX4_firstOf_9 : decode cX4_firstOf 9 = .ok (.idiv, 1) := by decide +kernel
theorem dX4_firstOf_10 : decode cX4_firstOf 10 = .ok (.isub, 1) := by decide +kernel
theorem dX4_firstOf_11 : decode cX4_firstOf 11 = .ok (.iload_n 1, 1) := by decide +kernel
theorem dX4_firstOf_12 : decode cX4_firstOf 12 = .ok (.imul, 1) := by decide +kernel
theorem dX4_firstOf_13 : decode cX4_firstOf 13 = .ok (.ireturn, 1) := by decide +kernel
set_option maxRecDepth 20000 in
theorem ggX4_isAhead_X4_at : GoodIn wsX4_isAhead wsX4_at := goodIn_r _ [5] (by decide +kernel) (by decide +kernel)
set_option maxRecDepth 20000 in
theorem gX4_isAhead_X4_at : GoodIn wsX4_isAhead (va_wsS RX4 41 yX4_at wsX4_at) := goodIn_app (goodIn_of _ (by decide +kernel)) ggX4_isAhead_X4_at
theorem dX4_isAhead_0 : decode cX4_isAhead 0 = .ok (.aload_n 0, 1) := by decide +kernel
theorem dX4_isAhead_1 : decode cX4_isAhead 1 = .ok (.getfield 7, 3) := by decide +kernel
theorem dX4_isAhead_4 : decode cX4_isAhead 4 = .ok (.iload_n 1, 1) := by decide +kernel
theorem dX4_isAhead_5 : decode cX4_isAhead 5 = .ok (.invokestatic 41, 3) := by decide +kernel
theorem dX4_isAhead_8 : decode cX4_isAhead 8 = .ok (.iconst 1, 1) := by decide +kernel
theorem dX4_isAhead_9 : decode cX4_isAhead 9 = .ok (.iadd, 1) := by decide +kernel
theorem dX4_isAhead_10 : decode cX4_isAhead 10 = .ok (.iaload, 1) := by decide +kernel
theorem dX4_isAhead_11 : decode cX4_isAhead 11 = .ok (.aload_n 0, 1) := by decide +kernel
theorem dX4_isAhead_12 : decode cX4_isAhead 12 = .ok (.getfield 7, 3) := by decide +kernel
theorem dX4_isAhead_15 : decode cX4_isAhead 15 = .ok (.iload_n 2, 1) := by decide +kernel
theorem dX4_isAhead_16 : decode cX4_isAhead 16 = .ok (.invokestatic 41, 3) := by decide +kernel
theorem dX4_isAhead_19 : decode cX4_isAhead 19 = .ok (.iconst 1, 1) := by decide +kernel
theorem dX4_isAhead_20 : decode cX4_isAhead 20 = .ok (.iadd, 1) := by decide +kernel
theorem dX4_isAhead_21 : decode cX4_isAhead 21 = .ok (.iaload, 1) := by decide +kernel
theorem dX4_isAhead_22 : decode cX4_isAhead 22 = .ok (.isub, 1) := by decide +kernel
theorem dX4_isAhead_23 : decode cX4_isAhead 23 = .ok (.i2l, 1) := by decide +kernel
theorem dX4_isAhead_24 : decode cX4_isAhead 24 = .ok (.lload 5, 2) := by decide +kernel
theorem dX4_isAhead_26 : decode cX4_isAhead 26 = .ok (.lmul, 1) := by decide +kernel
theorem dX4_isAhead_27 : decode cX4_isAhead 27 = .ok (.aload_n 0, 1) := by decide +kernel
theorem dX4_isAhead_28 : decode cX4_isAhead 28 = .ok (.getfield 7, 3) := by decide +kernel
theorem dX4_isAhead_31 : decode cX4_isAhead 31 = .ok (.iload_n 1, 1) := by decide +kernel
theorem dX4_isAhead_32 : decode cX4_isAhead 32 = .ok (.invokestatic 41, 3) := by decide +kernel
theorem dX4_isAhead_35 : decode cX4_isAhead 35 = .ok (.iconst 2, 1) := by decide +kernel
theorem dX4_isAhead_36 : decode cX4_isAhead 36 = .ok (.iadd, 1) := by decide +kernel
theorem dX4_isAhead_37 : decode cX4_isAhead 37 = .ok (.iaload, 1) := by decide +kernel
theorem dX4_isAhead_38 : decode cX4_isAhead 38 = .ok (.aload_n 0, 1) := by decide +kernel
theorem dX4_isAhead_39 : decode cX4_isAhead 39 = .ok (.getfield 7, 3) := by decide +kernel
theorem dX4_isAhead_42 : decode cX4_isAhead 42 = .ok (.iload_n 2, 1) := by decide +kernel
theorem dX4_isAhead_43 : decode cX4_isAhead 43 = .ok (.invokestatic 41, 3) := by decide +kernel
theorem dX4_isAhead_46 : decode cX4_isAhead 46 = .ok (.iconst 2, 1) := by decide +kernel
theorem dX4_isAhead_47 : decode cX4_isAhead 47 = .ok (.iadd, 1) := by decide +kernel
theorem dX4_isAhead_48 : decode cX4_isAhead 48 = .ok (.iaload, 1) := by decide +kernel
theorem dX4_isAhead_49 : decode cX4_isAhead 49 = .ok (.isub, 1) := by decide +kernel
theorem dX4_isAhead_50 : decode cX4_isAhead 50 = .ok (.i2l, 1) := by decide +kernel
theorem dX4_isAhead_51 : decode cX4_isAhead 51 = .ok (.lload_n 3, 1) := by decide +kernel
theorem dX4_isAhead_52 : decode cX4_isAhead 52 = .ok (.lmul, 1) := by decide +kernel
theorem dX4_isAhead_53 : decode cX4_isAhead 53 = .ok (.ladd, 1) := by decide +kernel
theorem dX4_isAhead_54 : decode cX4_isAhead 54 = .ok (.lstore 7, 2) := by decide +kernel
theorem dX4_isAhead_56 : decode cX4_isAhead 56 = .ok (.lload 7, 2) := by decide +kernel
theorem dX4_isAhead_58 : decode cX4_isAhead 58 = .ok (.lconst 0, 1) := by decide +kernel
theorem dX4_isAhead_59 : decode cX4_isAhead 59 = .ok (.lcmp, 1) := by decide +kernel
theorem dX4_isAhead_60 : decode cX4_isAhead 60 = .ok (.ifCond .eq 16, 3) := by decide +kernel
theorem dX4_isAhead_63 : decode cX4_isAhead 63 = .ok (.lload 7, 2) := by decide +kernel
theorem dX4_isAhead_65 : decode cX4_isAhead 65 = .ok (.lconst 0, 1) := by decide +kernel
theorem dX4_isAhead_66 : decode cX4_isAhead 66 = .ok (.lcmp, 1) := by decide +kernel
theorem dX4_isAhead_67 : decode cX4_isAhead 67 = .ok (.ifCond .le 7, 3) := by decide +kernel
theorem dX4_isAhead_70 : decode cX4_isAhead 70 = .ok (.iconst 1, 1) := by decide +kernel
theorem dX4_isAhead_71 : decode cX4_isAhead 71 = .ok (.goto 4, 3) := by decide +kernel
theorem dX4_isAhead_74 : decode cX4_isAhead 74 = .ok (.iconst 0, 1) := by decide +kernel
theorem dX4_isAhead_75 : decode cX4_isAhead 75 = .ok (.ireturn, 1) := by decide +kernel
theorem dX4_isAhead_76 : decode cX4_isAhead 76 = .ok (.aload_n 0, 1) := by decide +kernel
theorem dX4_isAhead_77 : decode cX4_isAhead 77 = .ok (.getfield 7, 3) := by decide +kernel
theorem dX4_isAhead_80 : decode cX4_isAhead 80 = .ok (.iload_n 1, 1) := by decide +kernel
theorem dX4_isAhead_81 : decode cX4_isAhead 81 = .ok (.invokestatic 41, 3) := by decide +kernel
theorem dX4_isAhead_84 : decode cX4_isAhead 84 = .ok (.iconst 2, 1) := by decide +kernel
theorem dX4_isAhead_85 : decode cX4_isAhead 85 = .ok (.iadd, 1) := by decide +kernel
theorem dX4_isAhead_86 : decode cX4_isAhead 86 = .ok (.iaload, 1) := by decide +kernel
theorem dX4_isAhead_87 : decode cX4_isAhead 87 = .ok (.aload_n 0, 1) := by decide +kernel
theorem dX4_isAhead_88 : decode cX4_isAhead 88 = .ok (.getfield 7, 3) := by decide +kernel
theorem dX4_isAhead_91 : decode cX4_isAhead 91 = .ok (.iload_n 2, 1) := by decide +kernel
theorem dX4_isAhead_92 : decode cX4_isAhead 92 = .ok (.invokestatic 41, 3) := by decide +kernel
theorem dX4_isAhead_95 : decode cX4_isAhead 95 = .ok (.iconst 2, 1) := by decide +kernel
theorem dX4_isAhead_96 : decode cX4_isAhead 96 = .ok (.iadd, 1) := by decide +kernel
theorem dX4_isAhead_97 : decode cX4_isAhead 97 = .ok (.iaload, 1) := by decide +kernel
theorem dX4_isAhead_98 : decode cX4_isAhead 98 = .ok (.isub, 1) := by decide +kernel
theorem dX4_isAhead_99 : decode cX4_isAhead 99 = .ok (.istore 9, 2) := by decide +kernel
theorem dX4_isAhead_101 : decode cX4_isAhead 101 = .ok (.iload 9, 2) := by decide +kernel
theorem dX4_isAhead_103 : decode cX4_isAhead 103 = .ok (.ifCond .eq 14, 3) := by decide +kernel
theorem dX4_isAhead_106 : decode cX4_isAhead 106 = .ok (.iload 9, 2) := by decide +kernel
theorem dX4_isAhead_108 : decode cX4_isAhead 108 = .ok (.ifCond .le 7, 3) := by decide +kernel
theorem dX4_isAhead_111 : decode cX4_isAhead 111 = .ok (.iconst 1, 1) := by decide +kernel
theorem dX4_isAhead_112 : decode cX4_isAhead 112 = .ok (.goto 4, 3) := by decide +kernel
theorem dX4_isAhead_115 : decode cX4_isAhead 115 = .ok (.iconst 0, 1) := by decide +kernel
theorem dX4_isAhead_116 : decode cX4_isAhead 116 = .ok (.ireturn, 1) := by decide +kernel
theorem dX4_isAhead_117 : decode cX4_isAhead 117 = .ok (.aload_n 0, 1) := by decide +kernel
theorem dX4_isAhead_118 : decode cX4_isAhead 118 = .ok (.getfield 7, 3) := by decide +kernel
theorem dX4_isAhead_121 : decode cX4_isAhead 121 = .ok (.iconst 1, 1) := by decide +kernel
theorem dX4_isAhead_122 : decode cX4_isAhead 122 = .ok (.iaload, 1) := by decide +kernel
theorem dX4_isAhead_123 : decode cX4_isAhead 123 = .ok (.ifCond .ne 16, 3) := by decide +kernel
theorem dX4_isAhead_126 : decode cX4_isAhead 126 = .ok (.iload_n 1, 1) := by decide +kernel
theorem dX4_isAhead_127 : decode cX4_isAhead 127 = .ok (.iload_n 2, 1) := by decide +kernel
theorem dX4_isAhead_128 : decode cX4_isAhead 128 = .ok (.if_icmp .ge 7, 3) := by decide +kernel
theorem dX4_isAhead_131 : decode cX4_isAhead 131 = .ok (.iconst 1, 1) := by decide +kernel
theorem dX4_isAhead_132 : decode cX4_isAhead 132 = .ok (.goto 17, 3) := by decide +kernel
theorem dX4_isAhead_135 : decode cX4_isAhead 135 = .ok (.iconst 0, 1) := by decide +kernel
theorem dX4_isAhead_136 : decode cX4_isAhead 136 = .ok (.goto 13, 3) := by decide +kernel
theorem dX4_isAhead_139 : decode cX4_isAhead 139 = .ok (.iload_n 1, 1) := by decide +kernel
theorem dX4_isAhead_140 : decode cX4_isAhead 140 = .ok (.iload_n 2, 1) := by decide +kernel
theorem dX4_isAhead_141 : decode cX4_isAhead 141 = .ok (.if_icmp .le 7, 3) := by decide +kernel
theorem dX4_isAhead_144 : decode cX4_isAhead 144 = .ok (.iconst 1, 1) := by decide +kernel
theorem dX4_isAhead_145 : decode cX4_isAhead 145 = .ok (.goto 4, 3) := by decide +kernel
theorem dX4_isAhead_148 : decode cX4_isAhead 148 = .ok (.iconst 0, 1) := by decide +kernel
theorem dX4_isAhead_149 : decode cX4_isAhead 149 = .ok (.ireturn, 1) := by decide +kernel
set_option maxRecDepth 20000 in
theorem ggX4_winnerAt_X4_firstOf : GoodIn wsX4_winnerAt wsX4_firstOf := goodIn_r _ [4, 5, 6, 3, 7] (by decide +kernel) (by decide +kernel)
set_option maxRecDepth 20000 in
theorem gX4_winnerAt_X4_firstOf : GoodIn wsX4_winnerAt (va_wsS RX4 56 yX4_firstOf wsX4_firstOf) := goodIn_app (goodIn_of _ (by decide +kernel)) ggX4_winnerAt_X4_firstOf
set_option maxRecDepth 20000 in
theorem ggX4_winnerAt_X4_slotsOf : GoodIn wsX4_winnerAt wsX4_slotsOf := goodIn_r _ [7] (by decide +kernel) (by decide +kernel)
set_option maxRecDepth 20000 in
theorem gX4_winnerAt_X4_slotsOf : GoodIn wsX4_winnerAt (va_wsS RX4 53 yX4_slotsOf wsX4_slotsOf) := goodIn_app (goodIn_of _ (by decide +kernel)) ggX4_winnerAt_X4_slotsOf
set_option maxRecDepth 20000 in
theorem ggX4_winnerAt_X4_has : GoodIn wsX4_winnerAt wsX4_has := goodIn_r _ [11, 12, 13, 14, 3, 15, 20, 21, 22, 23, 24, 25, 26, 27, 28, 29, 30, 31, 32, 33, 34, 35, 36, 37, 38, 39, 40, 41] (by decide +kernel) (by decide +kernel)
set_option maxRecDepth 20000 in
theorem gX4_winnerAt_X4_has : GoodIn wsX4_winnerAt (wsV RX4 49 RX4 yX4_has wsX4_has) := goodIn_app (goodIn_of _ (by decide +kernel)) ggX4_winnerAt_X4_has
set_option maxRecDepth 20000 in
theorem ggX4_winnerAt_X4_isAhead : GoodIn wsX4_winnerAt wsX4_isAhead := goodIn_r _ [19, 12, 13, 14, 3, 15, 20, 21, 22, 23, 24, 25, 26, 27, 28, 29, 30, 31, 32, 33, 34, 35, 36, 37, 38, 39, 40, 41] (by decide +kernel) (by decide +kernel)
set_option maxRecDepth 20000 in
theorem gX4_winnerAt_X4_isAhead : GoodIn wsX4_winnerAt (wsV RX4 59 RX4 yX4_isAhead wsX4_isAhead) := goodIn_app (goodIn_of _ (by decide +kernel)) ggX4_winnerAt_X4_isAhead
theorem dX4_winnerAt_0 : decode cX4_winnerAt 0 = .ok (.iconst (-1), 1) := by decide +kernel
theorem dX4_winnerAt_1 : decode cX4_winnerAt 1 = .ok (.istore 6, 2) := by decide +kernel
theorem dX4_winnerAt_3 : decode cX4_winnerAt 3 = .ok (.iload_n 1, 1) := by decide +kernel
theorem dX4_winnerAt_4 : decode cX4_winnerAt 4 = .ok (.invokestatic 56, 3) := by decide +kernel
theorem dX4_winnerAt_7 : decode cX4_winnerAt 7 = .ok (.istore 7, 2) := by decide +kernel
theorem dX4_winnerAt_9 : decode cX4_winnerAt 9 = .ok (.iload 7, 2) := by decide +kernel
theorem dX4_winnerAt_11 : decode cX4_winnerAt 11 = .ok (.istore 8, 2) := by decide +kernel
theorem dX4_winnerAt_13 : decode cX4_winnerAt 13 = .ok (.iload 8, 2) := by decide +kernel
theorem dX4_winnerAt_15 : decode cX4_winnerAt 15 = .ok (.iload 7, 2) := by decide +kernel
theorem dX4_winnerAt_17 : decode cX4_winnerAt 17 = .ok (.iload_n 1, 1) := by decide +kernel
theorem dX4_winnerAt_18 : decode cX4_winnerAt 18 = .ok (.invokestatic 53, 3) := by decide +kernel
theorem dX4_winnerAt_21 : decode cX4_winnerAt 21 = .ok (.iadd, 1) := by decide +kernel
theorem dX4_winnerAt_22 : decode cX4_winnerAt 22 = .ok (.if_icmp .ge 47, 3) := by decide +kernel
theorem dX4_winnerAt_25 : decode cX4_winnerAt 25 = .ok (.aload_n 0, 1) := by decide +kernel
theorem dX4_winnerAt_26 : decode cX4_winnerAt 26 = .ok (.iload 8, 2) := by decide +kernel
theorem dX4_winnerAt_28 : decode cX4_winnerAt 28 = .ok (.invokevirtual 49, 3) := by decide +kernel
theorem dX4_winnerAt_31 : decode cX4_winnerAt 31 = .ok (.ifCond .eq 28, 3) := by decide +kernel
theorem dX4_winnerAt_34 : decode cX4_winnerAt 34 = .ok (.iload 6, 2) := by decide +kernel
theorem dX4_winnerAt_36 : decode cX4_winnerAt 36 = .ok (.iconst (-1), 1) := by decide +kernel
theorem dX4_winnerAt_37 : decode cX4_winnerAt 37 = .ok (.if_icmp .eq 17, 3) := by decide +kernel
theorem dX4_winnerAt_40 : decode cX4_winnerAt 40 = .ok (.aload_n 0, 1) := by decide +kernel
theorem dX4_winnerAt_41 : decode cX4_winnerAt 41 = .ok (.iload 8, 2) := by decide +kernel
theorem dX4_winnerAt_43 : decode cX4_winnerAt 43 = .ok (.iload 6, 2) := by decide +kernel
theorem dX4_winnerAt_45 : decode cX4_winnerAt 45 = .ok (.lload_n 2, 1) := by decide +kernel
theorem dX4_winnerAt_46 : decode cX4_winnerAt 46 = .ok (.lload 4, 2) := by decide +kernel
theorem dX4_winnerAt_48 : decode cX4_winnerAt 48 = .ok (.invokevirtual 59, 3) := by decide +kernel
theorem dX4_winnerAt_51 : decode cX4_winnerAt 51 = .ok (.ifCond .eq 8, 3) := by decide +kernel
theorem dX4_winnerAt_54 : decode cX4_winnerAt 54 = .ok (.iload 8, 2) := by decide +kernel
theorem dX4_winnerAt_56 : decode cX4_winnerAt 56 = .ok (.goto 5, 3) := by decide +kernel
theorem dX4_winnerAt_59 : decode cX4_winnerAt 59 = .ok (.iload 6, 2) := by decide +kernel
theorem dX4_winnerAt_61 : decode cX4_winnerAt 61 = .ok (.istore 6, 2) := by decide +kernel
theorem dX4_winnerAt_63 : decode cX4_winnerAt 63 = .ok (.iinc 8 1, 3) := by decide +kernel
theorem dX4_winnerAt_66 : decode cX4_winnerAt 66 = .ok (.goto (-53), 3) := by decide +kernel
theorem dX4_winnerAt_69 : decode cX4_winnerAt 69 = .ok (.iload 6, 2) := by decide +kernel
theorem dX4_winnerAt_71 : decode cX4_winnerAt 71 = .ok (.ireturn, 1) := by decide +kernel
set_option maxRecDepth 20000 in
theorem ggX4_winnerOf_X4_winnerAt : GoodIn wsX4_winnerOf wsX4_winnerAt := goodIn_r _ [5, 6, 7, 4, 8, 9, 10, 11, 12, 13, 14, 15, 16, 17, 18, 19, 20, 21, 22, 23, 24, 25, 26, 27, 28, 29, 30, 31, 32, 33, 34, 35, 36, 37, 38, 39, 40, 41, 42, 43, 44, 45] (by decide +kernel) (by decide +kernel)
set_option maxRecDepth 20000 in
theorem gX4_winnerOf_X4_winnerAt : GoodIn wsX4_winnerOf (wsV RX4 63 RX4 yX4_winnerAt wsX4_winnerAt) := goodIn_app (goodIn_of _ (by decide +kernel)) ggX4_winnerOf_X4_winnerAt
theorem dX4_winnerOf_0 : decode cX4_winnerOf 0 = .ok (.aload_n 0, 1) := by decide +kernel
theorem dX4_winnerOf_1 : decode cX4_winnerOf 1 = .ok (.iload_n 1, 1) := by decide +kernel
theorem dX4_winnerOf_2 : decode cX4_winnerOf 2 = .ok (.lconst 0, 1) := by decide +kernel
theorem dX4_winnerOf_3 : decode cX4_winnerOf 3 = .ok (.lconst 1, 1) := by decide +kernel
theorem dX4_winnerOf_4 : decode cX4_winnerOf 4 = .ok (.invokevirtual 63, 3) := by decide +kernel
theorem dX4_winnerOf_7 : decode cX4_winnerOf 7 = .ok (.ireturn, 1) := by decide +kernel
set_option maxRecDepth 20000 in
theorem ggX4_layNext_X4_firstOf : GoodIn wsX4_layNext wsX4_firstOf := goodIn_r _ [9, 10, 11, 8, 12] (by decide +kernel) (by decide +kernel)
set_option maxRecDepth 20000 in
theorem gX4_layNext_X4_firstOf : GoodIn wsX4_layNext (va_wsS RX4 56 yX4_firstOf wsX4_firstOf) := goodIn_app (goodIn_of _ (by decide +kernel)) ggX4_layNext_X4_firstOf
set_option maxRecDepth 20000 in
theorem ggX4_layNext_X4_slotsOf : GoodIn wsX4_layNext wsX4_slotsOf := goodIn_r _ [12] (by decide +kernel) (by decide +kernel)
set_option maxRecDepth 20000 in
theorem gX4_layNext_X4_slotsOf : GoodIn wsX4_layNext (va_wsS RX4 53 yX4_slotsOf wsX4_slotsOf) := goodIn_app (goodIn_of _ (by decide +kernel)) ggX4_layNext_X4_slotsOf
set_option maxRecDepth 20000 in
theorem ggX4_layNext_X4_has : GoodIn wsX4_layNext wsX4_has := goodIn_r _ [16, 4, 17, 18, 8, 19, 24, 25, 26, 27, 28, 29, 30, 31, 32, 33, 34, 35, 36, 37, 38, 39, 40, 41, 42, 43, 44, 45] (by decide +kernel) (by decide +kernel)
set_option maxRecDepth 20000 in
theorem gX4_layNext_X4_has : GoodIn wsX4_layNext (wsV RX4 49 RX4 yX4_has wsX4_has) := goodIn_app (goodIn_of _ (by decide +kernel)) ggX4_layNext_X4_has
set_option maxRecDepth 20000 in
theorem ggX4_layNext_X4_at : GoodIn wsX4_layNext wsX4_at := goodIn_r _ [19] (by decide +kernel) (by decide +kernel)
set_option maxRecDepth 20000 in
theorem gX4_layNext_X4_at : GoodIn wsX4_layNext (va_wsS RX4 41 yX4_at wsX4_at) := goodIn_app (goodIn_of _ (by decide +kernel)) ggX4_layNext_X4_at
set_option maxRecDepth 20000 in
theorem ggX4_layNext_X4_isAhead : GoodIn wsX4_layNext wsX4_isAhead := goodIn_r _ [23, 4, 17, 18, 8, 19, 24, 25, 26, 27, 28, 29, 30, 31, 32, 33, 34, 35, 36, 37, 38, 39, 40, 41, 42, 43, 44, 45] (by decide +kernel) (by decide +kernel)
set_option maxRecDepth 20000 in
theorem gX4_layNext_X4_isAhead : GoodIn wsX4_layNext (wsV RX4 59 RX4 yX4_isAhead wsX4_isAhead) := goodIn_app (goodIn_of _ (by decide +kernel)) ggX4_layNext_X4_isAhead
theorem dX4_layNext_0 : decode cX4_layNext 0 = .ok (.iload_n 1, 1) := by decide +kernel
theorem dX4_layNext_1 : decode cX4_layNext 1 = .ok (.invokestatic 56, 3) := by decide +kernel
theorem dX4_layNext_4 : decode cX4_layNext 4 = .ok (.istore_n 3, 1) := by decide +kernel
theorem dX4_layNext_5 : decode cX4_layNext 5 = .ok (.aload_n 0, 1) := by decide +kernel
theorem dX4_layNext_6 : decode cX4_layNext 6 = .ok (.iconst (-1), 1) := by decide +kernel
theorem dX4_layNext_7 : decode cX4_layNext 7 = .ok (.putfield 67, 3) := by decide +kernel
theorem dX4_layNext_10 : decode cX4_layNext 10 = .ok (.aload_n 0, 1) := by decide +kernel
theorem dX4_layNext_11 : decode cX4_layNext 11 = .ok (.iconst 0, 1) := by decide +kernel
theorem dX4_layNext_12 : decode cX4_layNext 12 = .ok (.putfield 70, 3) := by decide +kernel
theorem dX4_layNext_15 : decode cX4_layNext 15 = .ok (.aload_n 0, 1) := by decide +kernel
theorem dX4_layNext_16 : decode cX4_layNext 16 = .ok (.iconst 0, 1) := by decide +kernel
theorem dX4_layNext_17 : decode cX4_layNext 17 = .ok (.putfield 73, 3) := by decide +kernel
theorem dX4_layNext_20 : decode cX4_layNext 20 = .ok (.iload_n 3, 1) := by decide +kernel
theorem dX4_layNext_21 : decode cX4_layNext 21 = .ok (.istore 4, 2) := by decide +kernel
theorem dX4_layNext_23 : decode cX4_layNext 23 = .ok (.iload 4, 2) := by decide +kernel
theorem dX4_layNext_25 : decode cX4_layNext 25 = .ok (.iload_n 3, 1) := by decide +kernel
theorem dX4_layNext_26 : decode cX4_layNext 26 = .ok (.iload_n 1, 1) := by decide +kernel
theorem dX4_layNext_27 : decode cX4_layNext 27 = .ok (.invokestatic 53, 3) := by decide +kernel
theorem dX4_layNext_30 : decode cX4_layNext 30 = .ok (.iadd, 1) := by decide +kernel
theorem dX4_layNext_31 : decode cX4_layNext 31 = .ok (.if_icmp .ge 230, 3) := by decide +kernel
theorem dX4_layNext_34 : decode cX4_layNext 34 = .ok (.iload_n 2, 1) := by decide +kernel
theorem dX4_layNext_35 : decode cX4_layNext 35 = .ok (.iconst (-1), 1) := by decide +kernel
theorem dX4_layNext_36 : decode cX4_layNext 36 = .ok (.if_icmp .eq 225, 3) := by decide +kernel
theorem dX4_layNext_39 : decode cX4_layNext 39 = .ok (.aload_n 0, 1) := by decide +kernel
theorem dX4_layNext_40 : decode cX4_layNext 40 = .ok (.iload 4, 2) := by decide +kernel
theorem dX4_layNext_42 : decode cX4_layNext 42 = .ok (.invokevirtual 49, 3) := by decide +kernel
theorem dX4_layNext_45 : decode cX4_layNext 45 = .ok (.ifCond .eq 210, 3) := by decide +kernel
theorem dX4_layNext_48 : decode cX4_layNext 48 = .ok (.aload_n 0, 1) := by decide +kernel
theorem dX4_layNext_49 : decode cX4_layNext 49 = .ok (.getfield 7, 3) := by decide +kernel
theorem dX4_layNext_52 : decode cX4_layNext 52 = .ok (.iload 4, 2) := by decide +kernel
theorem dX4_layNext_54 : decode cX4_layNext 54 = .ok (.invokestatic 41, 3) := by decide +kernel
theorem dX4_layNext_57 : decode cX4_layNext 57 = .ok (.iconst 2, 1) := by decide +kernel
theorem dX4_layNext_58 : decode cX4_layNext 58 = .ok (.iadd, 1) := by decide +kernel
theorem dX4_layNext_59 : decode cX4_layNext 59 = .ok (.iaload, 1) := by decide +kernel
theorem dX4_layNext_60 : decode cX4_layNext 60 = .ok (.aload_n 0, 1) := by decide +kernel
theorem dX4_layNext_61 : decode cX4_layNext 61 = .ok (.getfield 7, 3) := by decide +kernel
theorem dX4_layNext_64 : decode cX4_layNext 64 = .ok (.iload_n 2, 1) := by decide +kernel
theorem dX4_layNext_65 : decode cX4_layNext 65 = .ok (.invokestatic 41, 3) := by decide +kernel
theorem dX4_layNext_68 : decode cX4_layNext 68 = .ok (.iconst 2, 1) := by decide +kernel
theorem dX4_layNext_69 : decode cX4_layNext 69 = .ok (.iadd, 1) := by decide +kernel
theorem dX4_layNext_70 : decode cX4_layNext 70 = .ok (.iaload, 1) := by decide +kernel
theorem dX4_layNext_71 : decode cX4_layNext 71 = .ok (.if_icmp .le 184, 3) := by decide +kernel
theorem dX4_layNext_74 : decode cX4_layNext 74 = .ok (.aload_n 0, 1) := by decide +kernel
theorem dX4_layNext_75 : decode cX4_layNext 75 = .ok (.getfield 7, 3) := by decide +kernel
theorem dX4_layNext_78 : decode cX4_layNext 78 = .ok (.iload_n 2, 1) := by decide +kernel
theorem dX4_layNext_79 : decode cX4_layNext 79 = .ok (.invokestatic 41, 3) := by decide +kernel
theorem dX4_layNext_82 : decode cX4_layNext 82 = .ok (.iconst 1, 1) := by decide +kernel
theorem dX4_layNext_83 : decode cX4_layNext 83 = .ok (.iadd, 1) := by decide +kernel
theorem dX4_layNext_84 : decode cX4_layNext 84 = .ok (.iaload, 1) := by decide +kernel
theorem dX4_layNext_85 : decode cX4_layNext 85 = .ok (.aload_n 0, 1) := by decide +kernel
theorem dX4_layNext_86 : decode cX4_layNext 86 = .ok (.getfield 7, 3) := by decide +kernel
theorem dX4_layNext_89 : decode cX4_layNext 89 = .ok (.iload 4, 2) := by decide +kernel
theorem dX4_layNext_91 : decode cX4_layNext 91 = .ok (.invokestatic 41, 3) := by decide +kernel
theorem dX4_layNext_94 : decode cX4_layNext 94 = .ok (.iconst 1, 1) := by decide +kernel
theorem dX4_layNext_95 : decode cX4_layNext 95 = .ok (.iadd, 1) := by decide +kernel
theorem dX4_layNext_96 : decode cX4_layNext 96 = .ok (.iaload, 1) := by decide +kernel
theorem dX4_layNext_97 : decode cX4_layNext 97 = .ok (.isub, 1) := by decide +kernel
theorem dX4_layNext_98 : decode cX4_layNext 98 = .ok (.istore 5, 2) := by decide +kernel
theorem dX4_layNext_100 : decode cX4_layNext 100 = .ok (.aload_n 0, 1) := by decide +kernel
theorem dX4_layNext_101 : decode cX4_layNext 101 = .ok (.getfield 7, 3) := by decide +kernel
theorem dX4_layNext_104 : decode cX4_layNext 104 = .ok (.iload 4, 2) := by decide +kernel
theorem dX4_layNext_106 : decode cX4_layNext 106 = .ok (.invokestatic 41, 3) := by decide +kernel
theorem dX4_layNext_109 : decode cX4_layNext 109 = .ok (.iconst 2, 1) := by decide +kernel
theorem dX4_layNext_110 : decode cX4_layNext 110 = .ok (.iadd, 1) := by decide +kernel
theorem dX4_layNext_111 : decode cX4_layNext 111 = .ok (.iaload, 1) := by decide +kernel
theorem dX4_layNext_112 : decode cX4_layNext 112 = .ok (.aload_n 0, 1) := by decide +kernel
theorem dX4_layNext_113 : decode cX4_layNext 113 = .ok (.getfield 7, 3) := by decide +kernel
theorem dX4_layNext_116 : decode cX4_layNext 116 = .ok (.iload_n 2, 1) := by decide +kernel
theorem dX4_layNext_117 : decode cX4_layNext 117 = .ok (.invokestatic 41, 3) := by decide +kernel
theorem dX4_layNext_120 : decode cX4_layNext 120 = .ok (.iconst 2, 1) := by decide +kernel
theorem dX4_layNext_121 : decode cX4_layNext 121 = .ok (.iadd, 1) := by decide +kernel
theorem dX4_layNext_122 : decode cX4_layNext 122 = .ok (.iaload, 1) := by decide +kernel
theorem dX4_layNext_123 : decode cX4_layNext 123 = .ok (.isub, 1) := by decide +kernel
theorem dX4_layNext_124 : decode cX4_layNext 124 = .ok (.istore 6, 2) := by decide +kernel
theorem dX4_layNext_126 : decode cX4_layNext 126 = .ok (.aload_n 0, 1) := by decide +kernel
theorem dX4_layNext_127 : decode cX4_layNext 127 = .ok (.getfield 67, 3) := by decide +kernel
theorem dX4_layNext_130 : decode cX4_layNext 130 = .ok (.iconst (-1), 1) := by decide +kernel
theorem dX4_layNext_131 : decode cX4_layNext 131 = .ok (.if_icmp .ne 9, 3) := by decide +kernel
theorem dX4_layNext_134 : decode cX4_layNext 134 = .ok (.ldc2_w 76, 3) := by decide +kernel
theorem dX4_layNext_137 : decode cX4_layNext 137 = .ok (.goto 22, 3) := by decide +kernel
theorem dX4_layNext_140 : decode cX4_layNext 140 = .ok (.iload 5, 2) := by decide +kernel
theorem dX4_layNext_142 : decode cX4_layNext 142 = .ok (.i2l, 1) := by decide +kernel
theorem dX4_layNext_143 : decode cX4_layNext 143 = .ok (.aload_n 0, 1) := by decide +kernel
theorem dX4_layNext_144 : decode cX4_layNext 144 = .ok (.getfield 73, 3) := by decide +kernel
theorem dX4_layNext_147 : decode cX4_layNext 147 = .ok (.i2l, 1) := by decide +kernel
theorem dX4_layNext_148 : decode cX4_layNext 148 = .ok (.lmul, 1) := by decide +kernel
theorem dX4_layNext_149 : decode cX4_layNext 149 = .ok (.aload_n 0, 1) := by decide +kernel
theorem dX4_layNext_150 : decode cX4_layNext 150 = .ok (.getfield 70, 3) := by decide +kernel
theorem dX4_layNext_153 : decode cX4_layNext 153 = .ok (.i2l, 1) := by decide +kernel
theorem dX4_layNext_154 : decode cX4_layNext 154 = .ok (.iload 6, 2) := by decide +kernel
theorem dX4_layNext_156 : decode cX4_layNext 156 = .ok (.i2l, 1) := by decide +kernel
theorem dX4_layNext_157 : decode cX4_layNext 157 = .ok (.lmul, 1) := by decide +kernel
theorem dX4_layNext_158 : decode cX4_layNext 158 = .ok (.lsub, 1) := by decide +kernel
theorem dX4_layNext_159 : decode cX4_layNext 159 = .ok (.lstore 7, 2) := by decide +kernel
theorem dX4_layNext_161 : decode cX4_layNext 161 = .ok (.lload 7, 2) := by decide +kernel
theorem dX4_layNext_163 : decode cX4_layNext 163 = .ok (.lconst 0, 1) := by decide +kernel
theorem dX4_layNext_164 : decode cX4_layNext 164 = .ok (.lcmp, 1) := by decide +kernel
theorem dX4_layNext_165 : decode cX4_layNext 165 = .ok (.ifCond .lt 29, 3) := by decide +kernel
theorem dX4_layNext_168 : decode cX4_layNext 168 = .ok (.lload 7, 2) := by decide +kernel
theorem dX4_layNext_170 : decode cX4_layNext 170 = .ok (.lconst 0, 1) := by decide +kernel
theorem dX4_layNext_171 : decode cX4_layNext 171 = .ok (.lcmp, 1) := by decide +kernel
theorem dX4_layNext_172 : decode cX4_layNext 172 = .ok (.ifCond .ne 26, 3) := by decide +kernel
theorem dX4_layNext_175 : decode cX4_layNext 175 = .ok (.aload_n 0, 1) := by decide +kernel
theorem dX4_layNext_176 : decode cX4_layNext 176 = .ok (.iload 4, 2) := by decide +kernel
theorem dX4_layNext_178 : decode cX4_layNext 178 = .ok (.aload_n 0, 1) := by decide +kernel
theorem dX4_layNext_179 : decode cX4_layNext 179 = .ok (.getfield 67, 3) := by decide +kernel
theorem dX4_layNext_182 : decode cX4_layNext 182 = .ok (.iload 5, 2) := by decide +kernel
theorem dX4_layNext_184 : decode cX4_layNext 184 = .ok (.i2l, 1) := by decide +kernel
theorem dX4_layNext_185 : decode cX4_layNext 185 = .ok (.iload 6, 2) := by decide +kernel
theorem dX4_layNext_187 : decode cX4_layNext 187 = .ok (.i2l, 1) := by decide +kernel
theorem dX4_layNext_188 : decode cX4_layNext 188 = .ok (.invokevirtual 59, 3) := by decide +kernel
theorem dX4_layNext_191 : decode cX4_layNext 191 = .ok (.ifCond .eq 7, 3) := by decide +kernel
theorem dX4_layNext_194 : decode cX4_layNext 194 = .ok (.iconst 1, 1) := by decide +kernel
theorem dX4_layNext_195 : decode cX4_layNext 195 = .ok (.goto 4, 3) := by decide +kernel
theorem dX4_layNext_198 : decode cX4_layNext 198 = .ok (.iconst 0, 1) := by decide +kernel
theorem dX4_layNext_199 : decode cX4_layNext 199 = .ok (.istore 9, 2) := by decide +kernel
theorem dX4_layNext_201 : decode cX4_layNext 201 = .ok (.aload_n 0, 1) := by decide +kernel
theorem dX4_layNext_202 : decode cX4_layNext 202 = .ok (.iload 9, 2) := by decide +kernel
theorem dX4_layNext_204 : decode cX4_layNext 204 = .ok (.ifCond .eq 8, 3) := by decide +kernel
theorem dX4_layNext_207 : decode cX4_layNext 207 = .ok (.iload 4, 2) := by decide +kernel
theorem dX4_layNext_209 : decode cX4_layNext 209 = .ok (.goto 7, 3) := by decide +kernel
theorem dX4_layNext_212 : decode cX4_layNext 212 = .ok (.aload_n 0, 1) := by decide +kernel
theorem dX4_layNext_213 : decode cX4_layNext 213 = .ok (.getfield 67, 3) := by decide +kernel
theorem dX4_layNext_216 : decode cX4_layNext 216 = .ok (.putfield 67, 3) := by decide +kernel
theorem dX4_layNext_219 : decode cX4_layNext 219 = .ok (.aload_n 0, 1) := by decide +kernel
theorem dX4_layNext_220 : decode cX4_layNext 220 = .ok (.iload 9, 2) := by decide +kernel
theorem dX4_layNext_222 : decode cX4_layNext 222 = .ok (.ifCond .eq 8, 3) := by decide +kernel
theorem dX4_layNext_225 : decode cX4_layNext 225 = .ok (.iload 5, 2) := by decide +kernel
theorem dX4_layNext_227 : decode cX4_layNext 227 = .ok (.goto 7, 3) := by decide +kernel
theorem dX4_layNext_230 : decode cX4_layNext 230 = .ok (.aload_n 0, 1) := by decide +kernel
theorem dX4_layNext_231 : decode cX4_layNext 231 = .ok (.getfield 70, 3) := by decide +kernel
theorem dX4_layNext_234 : decode cX4_layNext 234 = .ok (.putfield 70, 3) := by decide +kernel
theorem dX4_layNext_237 : decode cX4_layNext 237 = .ok (.aload_n 0, 1) := by decide +kernel
theorem dX4_layNext_238 : decode cX4_layNext 238 = .ok (.iload 9, 2) := by decide +kernel
theorem dX4_layNext_240 : decode cX4_layNext 240 = .ok (.ifCond .eq 8, 3) := by decide +kernel
theorem dX4_layNext_243 : decode cX4_layNext 243 = .ok (.iload 6, 2) := by decide +kernel
theorem dX4_layNext_245 : decode cX4_layNext 245 = .ok (.goto 7, 3) := by decide +kernel
theorem dX4_layNext_248 : decode cX4_layNext 248 = .ok (.aload_n 0, 1) := by decide +kernel
theorem dX4_layNext_249 : decode cX4_layNext 249 = .ok (.getfield 73, 3) := by decide +kernel
theorem dX4_layNext_252 : decode cX4_layNext 252 = .ok (.putfield 73, 3) := by decide +kernel
theorem dX4_layNext_255 : decode cX4_layNext 255 = .ok (.iinc 4 1, 3) := by decide +kernel
theorem dX4_layNext_258 : decode cX4_layNext 258 = .ok (.goto (-235), 3) := by decide +kernel
theorem dX4_layNext_261 : decode cX4_layNext 261 = .ok (.return_, 1) := by decide +kernel
set_option maxRecDepth 20000 in
theorem ggX4_turnsOf_X4_winnerOf : GoodIn wsX4_turnsOf wsX4_winnerOf := goodIn_r _ [8, 9, 10, 11, 7, 12, 13, 14, 15, 16, 17, 18, 19, 20, 21, 22, 23, 24, 25, 26, 27, 28, 29, 30, 36, 37, 38, 39, 40, 41, 42, 43, 44, 45, 46, 47, 48, 49, 50, 51, 52, 53, 54, 55, 56, 57] (by decide +kernel) (by decide +kernel)
set_option maxRecDepth 20000 in
theorem gX4_turnsOf_X4_winnerOf : GoodIn wsX4_turnsOf (wsV RX4 78 RX4 yX4_winnerOf wsX4_winnerOf) := goodIn_app (goodIn_of _ (by decide +kernel)) ggX4_turnsOf_X4_winnerOf
set_option maxRecDepth 20000 in
theorem ggX4_turnsOf_X4_layNext : GoodIn wsX4_turnsOf wsX4_layNext := goodIn_r _ [34, 1, 2, 3, 23, 35, 13, 14, 7, 15, 16, 17, 18, 19, 20, 21, 22, 24, 25, 26, 27, 28, 29, 30, 36, 37, 38, 39, 40, 41, 42, 43, 44, 45, 46, 47, 48, 49, 50, 51, 52, 53, 54, 55, 56, 57] (by decide +kernel) (by decide +kernel)
set_option maxRecDepth 20000 in
theorem gX4_turnsOf_X4_layNext : GoodIn wsX4_turnsOf (wsV RX4 81 RX4 yX4_layNext wsX4_layNext) := goodIn_app (goodIn_of _ (by decide +kernel)) ggX4_turnsOf_X4_layNext
theorem dX4_turnsOf_0 : decode cX4_turnsOf 0 = .ok (.iconst 0, 1) := by decide +kernel
theorem dX4_turnsOf_1 : decode cX4_turnsOf 1 = .ok (.istore_n 3, 1) := by decide +kernel
theorem dX4_turnsOf_2 : decode cX4_turnsOf 2 = .ok (.aload_n 0, 1) := by decide +kernel
theorem dX4_turnsOf_3 : decode cX4_turnsOf 3 = .ok (.iload_n 1, 1) := by decide +kernel
theorem dX4_turnsOf_4 : decode cX4_turnsOf 4 = .ok (.invokevirtual 78, 3) := by decide +kernel
theorem dX4_turnsOf_7 : decode cX4_turnsOf 7 = .ok (.istore 4, 2) := by decide +kernel
theorem dX4_turnsOf_9 : decode cX4_turnsOf 9 = .ok (.aload_n 0, 1) := by decide +kernel
theorem dX4_turnsOf_10 : decode cX4_turnsOf 10 = .ok (.iload_n 1, 1) := by decide +kernel
theorem dX4_turnsOf_11 : decode cX4_turnsOf 11 = .ok (.iload 4, 2) := by decide +kernel
theorem dX4_turnsOf_13 : decode cX4_turnsOf 13 = .ok (.invokevirtual 81, 3) := by decide +kernel
theorem dX4_turnsOf_16 : decode cX4_turnsOf 16 = .ok (.aload_n 0, 1) := by decide +kernel
theorem dX4_turnsOf_17 : decode cX4_turnsOf 17 = .ok (.getfield 67, 3) := by decide +kernel
theorem dX4_turnsOf_20 : decode cX4_turnsOf 20 = .ok (.iconst (-1), 1) := by decide +kernel
theorem dX4_turnsOf_21 : decode cX4_turnsOf 21 = .ok (.if_icmp .eq 39, 3) := by decide +kernel
theorem dX4_turnsOf_24 : decode cX4_turnsOf 24 = .ok (.aload_n 0, 1) := by decide +kernel
theorem dX4_turnsOf_25 : decode cX4_turnsOf 25 = .ok (.getfield 70, 3) := by decide +kernel
theorem dX4_turnsOf_28 : decode cX4_turnsOf 28 = .ok (.i2l, 1) := by decide +kernel
theorem dX4_turnsOf_29 : decode cX4_turnsOf 29 = .ok (.iload_n 2, 1) := by decide +kernel
theorem dX4_turnsOf_30 : decode cX4_turnsOf 30 = .ok (.i2l, 1) := by decide +kernel
theorem dX4_turnsOf_31 : decode cX4_turnsOf 31 = .ok (.aload_n 0, 1) := by decide +kernel
theorem dX4_turnsOf_32 : decode cX4_turnsOf 32 = .ok (.getfield 73, 3) := by decide +kernel
theorem dX4_turnsOf_35 : decode cX4_turnsOf 35 = .ok (.i2l, 1) := by decide +kernel
theorem dX4_turnsOf_36 : decode cX4_turnsOf 36 = .ok (.lmul, 1) := by decide +kernel
theorem dX4_turnsOf_37 : decode cX4_turnsOf 37 = .ok (.lcmp, 1) := by decide +kernel
theorem dX4_turnsOf_38 : decode cX4_turnsOf 38 = .ok (.ifCond .gt 22, 3) := by decide +kernel
theorem dX4_turnsOf_41 : decode cX4_turnsOf 41 = .ok (.iinc 3 1, 3) := by decide +kernel
theorem dX4_turnsOf_44 : decode cX4_turnsOf 44 = .ok (.aload_n 0, 1) := by decide +kernel
theorem dX4_turnsOf_45 : decode cX4_turnsOf 45 = .ok (.getfield 67, 3) := by decide +kernel
theorem dX4_turnsOf_48 : decode cX4_turnsOf 48 = .ok (.istore 4, 2) := by decide +kernel
theorem dX4_turnsOf_50 : decode cX4_turnsOf 50 = .ok (.aload_n 0, 1) := by decide +kernel
theorem dX4_turnsOf_51 : decode cX4_turnsOf 51 = .ok (.iload_n 1, 1) := by decide +kernel
theorem dX4_turnsOf_52 : decode cX4_turnsOf 52 = .ok (.iload 4, 2) := by decide +kernel
theorem dX4_turnsOf_54 : decode cX4_turnsOf 54 = .ok (.invokevirtual 81, 3) := by decide +kernel
theorem dX4_turnsOf_57 : decode cX4_turnsOf 57 = .ok (.goto (-41), 3) := by decide +kernel
theorem dX4_turnsOf_60 : decode cX4_turnsOf 60 = .ok (.iload_n 3, 1) := by decide +kernel
theorem dX4_turnsOf_61 : decode cX4_turnsOf 61 = .ok (.ireturn, 1) := by decide +kernel
set_option maxRecDepth 20000 in
theorem ggX4_turnsAll_X4_turnsOf : GoodIn wsX4_turnsAll wsX4_turnsOf := goodIn_r _ [5, 6, 7, 8, 9, 10, 11, 4, 12, 13, 14, 15, 16, 17, 18, 19, 20, 21, 22, 23, 24, 25, 26, 27, 28, 29, 30, 31, 32, 33, 34, 35, 36, 37, 38, 39, 40, 41, 42, 43, 44, 45, 46, 47, 48, 49, 50, 51, 52, 53, 54, 55, 56, 57, 58, 59, 60, 61] (by decide +kernel) (by decide +kernel)
set_option maxRecDepth 20000 in
theorem gX4_turnsAll_X4_turnsOf : GoodIn wsX4_turnsAll (wsV RX4 85 RX4 yX4_turnsOf wsX4_turnsOf) := goodIn_app (goodIn_of _ (by decide +kernel)) ggX4_turnsAll_X4_turnsOf
theorem dX4_turnsAll_0 : decode cX4_turnsAll 0 = .ok (.iconst 0, 1) := by decide +kernel
theorem dX4_turnsAll_1 : decode cX4_turnsAll 1 = .ok (.istore_n 2, 1) := by decide +kernel
theorem dX4_turnsAll_2 : decode cX4_turnsAll 2 = .ok (.iconst 1, 1) := by decide +kernel
theorem dX4_turnsAll_3 : decode cX4_turnsAll 3 = .ok (.istore_n 3, 1) := by decide +kernel
theorem dX4_turnsAll_4 : decode cX4_turnsAll 4 = .ok (.iload_n 3, 1) := by decide +kernel
theorem dX4_turnsAll_5 : decode cX4_turnsAll 5 = .ok (.bipush 15, 2) := by decide +kernel
theorem dX4_turnsAll_7 : decode cX4_turnsAll 7 = .ok (.if_icmp .gt 18, 3) := by decide +kernel
theorem dX4_turnsAll_10 : decode cX4_turnsAll 10 = .ok (.iload_n 2, 1) := by decide +kernel
theorem dX4_turnsAll_11 : decode cX4_turnsAll 11 = .ok (.aload_n 0, 1) := by decide +kernel
theorem dX4_turnsAll_12 : decode cX4_turnsAll 12 = .ok (.iload_n 3, 1) := by decide +kernel
theorem dX4_turnsAll_13 : decode cX4_turnsAll 13 = .ok (.iload_n 1, 1) := by decide +kernel
theorem dX4_turnsAll_14 : decode cX4_turnsAll 14 = .ok (.invokevirtual 85, 3) := by decide +kernel
theorem dX4_turnsAll_17 : decode cX4_turnsAll 17 = .ok (.iadd, 1) := by decide +kernel
theorem dX4_turnsAll_18 : decode cX4_turnsAll 18 = .ok (.istore_n 2, 1) := by decide +kernel
theorem dX4_turnsAll_19 : decode cX4_turnsAll 19 = .ok (.iinc 3 1, 3) := by decide +kernel
theorem dX4_turnsAll_22 : decode cX4_turnsAll 22 = .ok (.goto (-18), 3) := by decide +kernel
theorem dX4_turnsAll_25 : decode cX4_turnsAll 25 = .ok (.iload_n 2, 1) := by decide +kernel
theorem dX4_turnsAll_26 : decode cX4_turnsAll 26 = .ok (.ireturn, 1) := by decide +kernel
theorem dX4_divisor_0 : decode cX4_divisor 0 = .ok (.iload_n 0, 1) := by decide +kernel
theorem dX4_divisor_1 : decode cX4_divisor 1 = .ok (.istore_n 2, 1) := by decide +kernel
theorem dX4_divisor_2 : decode cX4_divisor 2 = .ok (.iload_n 1, 1) := by decide +kernel
theorem dX4_divisor_3 : decode cX4_divisor 3 = .ok (.istore_n 3, 1) := by decide +kernel
theorem dX4_divisor_4 : decode cX4_divisor 4 = .ok (.iload_n 3, 1) := by decide +kernel
theorem dX4_divisor_5 : decode cX4_divisor 5 = .ok (.ifCond .eq 16, 3) := by decide +kernel
theorem dX4_divisor_8 : decode cX4_divisor 8 = .ok (.iload_n 2, 1) := by decide +kernel
theorem dX4_divisor_9 : decode cX4_divisor 9 = .ok (.iload_n 3, 1) := by decide +kernel
theorem dX4_divisor_10 : decode cX4_divisor 10 = .ok (.irem, 1) := by decide +kernel
theorem dX4_divisor_11 : decode cX4_divisor 11 = .ok (.istore 4, 2) := by decide +kernel
theorem dX4_divisor_13 : decode cX4_divisor 13 = .ok (.iload_n 3, 1) := by decide +kernel
theorem dX4_divisor_14 : decode cX4_divisor 14 = .ok (.istore_n 2, 1) := by decide +kernel
theorem dX4_divisor_15 : decode cX4_divisor 15 = .ok (.iload 4, 2) := by decide +kernel
theorem dX4_divisor_17 : decode cX4_divisor 17 = .ok (.istore_n 3, 1) := by decide +kernel
theorem dX4_divisor_18 : decode cX4_divisor 18 = .ok (.goto (-14), 3) := by decide +kernel
theorem dX4_divisor_21 : decode cX4_divisor 21 = .ok (.iload_n 2, 1) := by decide +kernel
theorem dX4_divisor_22 : decode cX4_divisor 22 = .ok (.ireturn, 1) := by decide +kernel
set_option maxRecDepth 20000 in
theorem ggX4_moment_X4_divisor : GoodIn wsX4_moment wsX4_divisor := goodIn_r _ [5] (by decide +kernel) (by decide +kernel)
set_option maxRecDepth 20000 in
theorem gX4_moment_X4_divisor : GoodIn wsX4_moment (va_wsS RX4 89 yX4_divisor wsX4_divisor) := goodIn_app (goodIn_of _ (by decide +kernel)) ggX4_moment_X4_divisor
theorem dX4_moment_0 : decode cX4_moment 0 = .ok (.iload_n 2, 1) := by decide +kernel
theorem dX4_moment_1 : decode cX4_moment 1 = .ok (.ifCond .ne 5, 3) := by decide +kernel
theorem dX4_moment_4 : decode cX4_moment 4 = .ok (.iconst 0, 1) := by decide +kernel
theorem dX4_moment_5 : decode cX4_moment 5 = .ok (.ireturn, 1) := by decide +kernel
theorem dX4_moment_6 : decode cX4_moment 6 = .ok (.aload_n 0, 1) := by decide +kernel
theorem dX4_moment_7 : decode cX4_moment 7 = .ok (.getfield 7, 3) := by decide +kernel
theorem dX4_moment_10 : decode cX4_moment 10 = .ok (.iconst 0, 1) := by decide +kernel
theorem dX4_moment_11 : decode cX4_moment 11 = .ok (.iaload, 1) := by decide +kernel
theorem dX4_moment_12 : decode cX4_moment 12 = .ok (.iload_n 2, 1) := by decide +kernel
theorem dX4_moment_13 : decode cX4_moment 13 = .ok (.imul, 1) := by decide +kernel
theorem dX4_moment_14 : decode cX4_moment 14 = .ok (.iload_n 1, 1) := by decide +kernel
theorem dX4_moment_15 : decode cX4_moment 15 = .ok (.iadd, 1) := by decide +kernel
theorem dX4_moment_16 : decode cX4_moment 16 = .ok (.istore 4, 2) := by decide +kernel
theorem dX4_moment_18 : decode cX4_moment 18 = .ok (.iload 4, 2) := by decide +kernel
theorem dX4_moment_20 : decode cX4_moment 20 = .ok (.iload_n 2, 1) := by decide +kernel
theorem dX4_moment_21 : decode cX4_moment 21 = .ok (.invokestatic 89, 3) := by decide +kernel
theorem dX4_moment_24 : decode cX4_moment 24 = .ok (.istore 5, 2) := by decide +kernel
theorem dX4_moment_26 : decode cX4_moment 26 = .ok (.iload 5, 2) := by decide +kernel
theorem dX4_moment_28 : decode cX4_moment 28 = .ok (.ifCond .ne 7, 3) := by decide +kernel
theorem dX4_moment_31 : decode cX4_moment 31 = .ok (.iconst 1, 1) := by decide +kernel
theorem dX4_moment_32 : decode cX4_moment 32 = .ok (.goto 5, 3) := by decide +kernel
theorem dX4_moment_35 : decode cX4_moment 35 = .ok (.iload 5, 2) := by decide +kernel
theorem dX4_moment_37 : decode cX4_moment 37 = .ok (.istore 5, 2) := by decide +kernel
theorem dX4_moment_39 : decode cX4_moment 39 = .ok (.iload_n 3, 1) := by decide +kernel
theorem dX4_moment_40 : decode cX4_moment 40 = .ok (.ifCond .ne 11, 3) := by decide +kernel
theorem dX4_moment_43 : decode cX4_moment 43 = .ok (.iload 4, 2) := by decide +kernel
theorem dX4_moment_45 : decode cX4_moment 45 = .ok (.iload 5, 2) := by decide +kernel
theorem dX4_moment_47 : decode cX4_moment 47 = .ok (.idiv, 1) := by decide +kernel
theorem dX4_moment_48 : decode cX4_moment 48 = .ok (.goto 7, 3) := by decide +kernel
theorem dX4_moment_51 : decode cX4_moment 51 = .ok (.iload_n 2, 1) := by decide +kernel
theorem dX4_moment_52 : decode cX4_moment 52 = .ok (.iload 5, 2) := by decide +kernel
theorem dX4_moment_54 : decode cX4_moment 54 = .ok (.idiv, 1) := by decide +kernel
theorem dX4_moment_55 : decode cX4_moment 55 = .ok (.ireturn, 1) := by decide +kernel
set_option maxRecDepth 20000 in
theorem ggX4_isSpeed_X4_in : GoodIn wsX4_isSpeed wsX4_in := goodIn_r _ [4] (by decide +kernel) (by decide +kernel)
set_option maxRecDepth 20000 in
theorem gX4_isSpeed_X4_in : GoodIn wsX4_isSpeed (va_wsS RX4 45 yX4_in wsX4_in) := goodIn_app (goodIn_of _ (by decide +kernel)) ggX4_isSpeed_X4_in
theorem dX4_isSpeed_0 : decode cX4_isSpeed 0 = .ok (.iload_n 0, 1) := by decide +kernel
theorem dX4_isSpeed_1 : decode cX4_isSpeed 1 = .ok (.bipush (-99), 2) := by decide +kernel
theorem dX4_isSpeed_3 : decode cX4_isSpeed 3 = .ok (.bipush 99, 2) := by decide +kernel
theorem dX4_isSpeed_5 : decode cX4_isSpeed 5 = .ok (.invokestatic 45, 3) := by decide +kernel
theorem dX4_isSpeed_8 : decode cX4_isSpeed 8 = .ok (.ireturn, 1) := by decide +kernel
set_option maxRecDepth 20000 in
theorem ggX4_isValue_X4_in : GoodIn wsX4_isValue wsX4_in := goodIn_r _ [4] (by decide +kernel) (by decide +kernel)
set_option maxRecDepth 20000 in
theorem gX4_isValue_X4_in : GoodIn wsX4_isValue (va_wsS RX4 45 yX4_in wsX4_in) := goodIn_app (goodIn_of _ (by decide +kernel)) ggX4_isValue_X4_in
theorem dX4_isValue_0 : decode cX4_isValue 0 = .ok (.iload_n 0, 1) := by decide +kernel
theorem dX4_isValue_1 : decode cX4_isValue 1 = .ok (.sipush (-9999), 3) := by decide +kernel
theorem dX4_isValue_4 : decode cX4_isValue 4 = .ok (.sipush 9999, 3) := by decide +kernel
theorem dX4_isValue_7 : decode cX4_isValue 7 = .ok (.invokestatic 45, 3) := by decide +kernel
theorem dX4_isValue_10 : decode cX4_isValue 10 = .ok (.ireturn, 1) := by decide +kernel
set_option maxRecDepth 20000 in
theorem ggX4_freeSlot_X4_has : GoodIn wsX4_freeSlot wsX4_has := goodIn_r _ [5, 6, 7, 8, 4, 9, 10, 11, 12, 13, 14, 15, 16, 17, 18, 19, 20, 21, 22, 23, 24, 25, 26, 27, 28, 29, 30, 31] (by decide +kernel) (by decide +kernel)
set_option maxRecDepth 20000 in
theorem gX4_freeSlot_X4_has : GoodIn wsX4_freeSlot (wsV RX4 49 RX4 yX4_has wsX4_has) := goodIn_app (goodIn_of _ (by decide +kernel)) ggX4_freeSlot_X4_has
theorem dX4_freeSlot_0 : decode cX4_freeSlot 0 = .ok (.iconst 0, 1) := by decide +kernel
theorem dX4_freeSlot_1 : decode cX4_freeSlot 1 = .ok (.istore_n 1, 1) := by decide +kernel
theorem dX4_freeSlot_2 : decode cX4_freeSlot 2 = .ok (.iload_n 1, 1) := by decide +kernel
theorem dX4_freeSlot_3 : decode cX4_freeSlot 3 = .ok (.bipush 16, 2) := by decide +kernel
theorem dX4_freeSlot_5 : decode cX4_freeSlot 5 = .ok (.if_icmp .ge 17, 3) := by decide +kernel
theorem dX4_freeSlot_8 : decode cX4_freeSlot 8 = .ok (.aload_n 0, 1) := by decide +kernel
theorem dX4_freeSlot_9 : decode cX4_freeSlot 9 = .ok (.iload_n 1, 1) := by decide +kernel
theorem dX4_freeSlot_10 : decode cX4_freeSlot 10 = .ok (.invokevirtual 49, 3) := by decide +kernel
theorem dX4_freeSlot_13 : decode cX4_freeSlot 13 = .ok (.ifCond .eq 9, 3) := by decide +kernel
theorem dX4_freeSlot_16 : decode cX4_freeSlot 16 = .ok (.iinc 1 1, 3) := by decide +kernel
theorem dX4_freeSlot_19 : decode cX4_freeSlot 19 = .ok (.goto (-17), 3) := by decide +kernel
theorem dX4_freeSlot_22 : decode cX4_freeSlot 22 = .ok (.iload_n 1, 1) := by decide +kernel
theorem dX4_freeSlot_23 : decode cX4_freeSlot 23 = .ok (.bipush 16, 2) := by decide +kernel
theorem dX4_freeSlot_25 : decode cX4_freeSlot 25 = .ok (.if_icmp .ne 7, 3) := by decide +kernel
theorem dX4_freeSlot_28 : decode cX4_freeSlot 28 = .ok (.iconst (-1), 1) := by decide +kernel
theorem dX4_freeSlot_29 : decode cX4_freeSlot 29 = .ok (.goto 4, 3) := by decide +kernel
theorem dX4_freeSlot_32 : decode cX4_freeSlot 32 = .ok (.iload_n 1, 1) := by decide +kernel
theorem dX4_freeSlot_33 : decode cX4_freeSlot 33 = .ok (.ireturn, 1) := by decide +kernel
set_option maxRecDepth 20000 in
theorem ggX4_movers_X4_at : GoodIn wsX4_movers wsX4_at := goodIn_r _ [5] (by decide +kernel) (by decide +kernel)
set_option maxRecDepth 20000 in
theorem gX4_movers_X4_at : GoodIn wsX4_movers (va_wsS RX4 41 yX4_at wsX4_at) := goodIn_app (goodIn_of _ (by decide +kernel)) ggX4_movers_X4_at
theorem dX4_movers_0 : decode cX4_movers 0 = .ok (.iconst 0, 1) := by decide +kernel
theorem dX4_movers_1 : decode cX4_movers 1 = .ok (.istore_n 1, 1) := by decide +kernel
theorem dX4_movers_2 : decode cX4_movers 2 = .ok (.iconst 0, 1) := by decide +kernel
theorem dX4_movers_3 : decode cX4_movers 3 = .ok (.istore_n 2, 1) := by decide +kernel
theorem dX4_movers_4 : decode cX4_movers 4 = .ok (.iload_n 2, 1) := by decide +kernel
theorem dX4_movers_5 : decode cX4_movers 5 = .ok (.bipush 16, 2) := by decide +kernel
theorem dX4_movers_7 : decode cX4_movers 7 = .ok (.if_icmp .ge 21, 3) := by decide +kernel
theorem dX4_movers_10 : decode cX4_movers 10 = .ok (.iload_n 1, 1) := by decide +kernel
theorem dX4_movers_11 : decode cX4_movers 11 = .ok (.aload_n 0, 1) := by decide +kernel
theorem dX4_movers_12 : decode cX4_movers 12 = .ok (.getfield 7, 3) := by decide +kernel
theorem dX4_movers_15 : decode cX4_movers 15 = .ok (.iload_n 2, 1) := by decide +kernel
theorem dX4_movers_16 : decode cX4_movers 16 = .ok (.invokestatic 41, 3) := by decide +kernel
theorem dX4_movers_19 : decode cX4_movers 19 = .ok (.iaload, 1) := by decide +kernel
theorem dX4_movers_20 : decode cX4_movers 20 = .ok (.iadd, 1) := by decide +kernel
theorem dX4_movers_21 : decode cX4_movers 21 = .ok (.istore_n 1, 1) := by decide +kernel
theorem dX4_movers_22 : decode cX4_movers 22 = .ok (.iinc 2 1, 3) := by decide +kernel
theorem dX4_movers_25 : decode cX4_movers 25 = .ok (.goto (-21), 3) := by decide +kernel
theorem dX4_movers_28 : decode cX4_movers 28 = .ok (.iload_n 1, 1) := by decide +kernel
theorem dX4_movers_29 : decode cX4_movers 29 = .ok (.ireturn, 1) := by decide +kernel
set_option maxRecDepth 20000 in
theorem ggX4_addNow_X4_freeSlot : GoodIn wsX4_addNow wsX4_freeSlot := goodIn_r _ [6, 7, 8, 9, 5, 10, 1, 11, 12, 13, 14, 15, 16, 17, 18, 19, 20, 21, 22, 23, 24, 25, 26, 27, 28, 29, 30, 31, 32, 33, 34, 35] (by decide +kernel) (by decide +kernel)
set_option maxRecDepth 20000 in
theorem gX4_addNow_X4_freeSlot : GoodIn wsX4_addNow (wsV RX4 92 RX4 yX4_freeSlot wsX4_freeSlot) := goodIn_app (goodIn_of _ (by decide +kernel)) ggX4_addNow_X4_freeSlot
set_option maxRecDepth 20000 in
theorem ggX4_addNow_X4_at : GoodIn wsX4_addNow wsX4_at := goodIn_r _ [13] (by decide +kernel) (by decide +kernel)
set_option maxRecDepth 20000 in
theorem gX4_addNow_X4_at : GoodIn wsX4_addNow (va_wsS RX4 41 yX4_at wsX4_at) := goodIn_app (goodIn_of _ (by decide +kernel)) ggX4_addNow_X4_at
theorem dX4_addNow_0 : decode cX4_addNow 0 = .ok (.aload_n 0, 1) := by decide +kernel
theorem dX4_addNow_1 : decode cX4_addNow 1 = .ok (.invokevirtual 92, 3) := by decide +kernel
theorem dX4_addNow_4 : decode cX4_addNow 4 = .ok (.istore_n 3, 1) := by decide +kernel
theorem dX4_addNow_5 : decode cX4_addNow 5 = .ok (.aload_n 0, 1) := by decide +kernel
theorem dX4_addNow_6 : decode cX4_addNow 6 = .ok (.getfield 7, 3) := by decide +kernel
theorem dX4_addNow_9 : decode cX4_addNow 9 = .ok (.iload_n 3, 1) := by decide +kernel
theorem dX4_addNow_10 : decode cX4_addNow 10 = .ok (.invokestatic 41, 3) := by decide +kernel
theorem dX4_addNow_13 : decode cX4_addNow 13 = .ok (.iconst 1, 1) := by decide +kernel
theorem dX4_addNow_14 : decode cX4_addNow 14 = .ok (.iastore, 1) := by decide +kernel
theorem dX4_addNow_15 : decode cX4_addNow 15 = .ok (.aload_n 0, 1) := by decide +kernel
theorem dX4_addNow_16 : decode cX4_addNow 16 = .ok (.getfield 7, 3) := by decide +kernel
theorem dX4_addNow_19 : decode cX4_addNow 19 = .ok (.iload_n 3, 1) := by decide +kernel
theorem dX4_addNow_20 : decode cX4_addNow 20 = .ok (.invokestatic 41, 3) := by decide +kernel
theorem dX4_addNow_23 : decode cX4_addNow 23 = .ok (.iconst 1, 1) := by decide +kernel
theorem dX4_addNow_24 : decode cX4_addNow 24 = .ok (.iadd, 1) := by decide +kernel
theorem dX4_addNow_25 : decode cX4_addNow 25 = .ok (.iload_n 1, 1) := by decide +kernel
theorem dX4_addNow_26 : decode cX4_addNow 26 = .ok (.iastore, 1) := by decide +kernel
theorem dX4_addNow_27 : decode cX4_addNow 27 = .ok (.aload_n 0, 1) := by decide +kernel
theorem dX4_addNow_28 : decode cX4_addNow 28 = .ok (.getfield 7, 3) := by decide +kernel
theorem dX4_addNow_31 : decode cX4_addNow 31 = .ok (.iload_n 3, 1) := by decide +kernel
theorem dX4_addNow_32 : decode cX4_addNow 32 = .ok (.invokestatic 41, 3) := by decide +kernel
theorem dX4_addNow_35 : decode cX4_addNow 35 = .ok (.iconst 2, 1) := by decide +kernel
theorem dX4_addNow_36 : decode cX4_addNow 36 = .ok (.iadd, 1) := by decide +kernel
theorem dX4_addNow_37 : decode cX4_addNow 37 = .ok (.iload_n 2, 1) := by decide +kernel
theorem dX4_addNow_38 : decode cX4_addNow 38 = .ok (.iastore, 1) := by decide +kernel
theorem dX4_addNow_39 : decode cX4_addNow 39 = .ok (.aload_n 0, 1) := by decide +kernel
theorem dX4_addNow_40 : decode cX4_addNow 40 = .ok (.getfield 7, 3) := by decide +kernel
theorem dX4_addNow_43 : decode cX4_addNow 43 = .ok (.iload_n 3, 1) := by decide +kernel
theorem dX4_addNow_44 : decode cX4_addNow 44 = .ok (.invokestatic 41, 3) := by decide +kernel
theorem dX4_addNow_47 : decode cX4_addNow 47 = .ok (.iconst 3, 1) := by decide +kernel
theorem dX4_addNow_48 : decode cX4_addNow 48 = .ok (.iadd, 1) := by decide +kernel
theorem dX4_addNow_49 : decode cX4_addNow 49 = .ok (.aload_n 0, 1) := by decide +kernel
theorem dX4_addNow_50 : decode cX4_addNow 50 = .ok (.getfield 7, 3) := by decide +kernel
theorem dX4_addNow_53 : decode cX4_addNow 53 = .ok (.iconst 0, 1) := by decide +kernel
theorem dX4_addNow_54 : decode cX4_addNow 54 = .ok (.iaload, 1) := by decide +kernel
theorem dX4_addNow_55 : decode cX4_addNow 55 = .ok (.iastore, 1) := by decide +kernel
theorem dX4_addNow_56 : decode cX4_addNow 56 = .ok (.iload_n 3, 1) := by decide +kernel
theorem dX4_addNow_57 : decode cX4_addNow 57 = .ok (.ireturn, 1) := by decide +kernel
set_option maxRecDepth 20000 in
theorem ggX4_add_X4_isValue : GoodIn wsX4_add wsX4_isValue := goodIn_r _ [5, 6, 7, 4, 8] (by decide +kernel) (by decide +kernel)
set_option maxRecDepth 20000 in
theorem gX4_add_X4_isValue : GoodIn wsX4_add (va_wsS RX4 96 yX4_isValue wsX4_isValue) := goodIn_app (goodIn_of _ (by decide +kernel)) ggX4_add_X4_isValue
set_option maxRecDepth 20000 in
theorem ggX4_add_X4_isSpeed : GoodIn wsX4_add wsX4_isSpeed := goodIn_r _ [11, 6, 7, 4, 8] (by decide +kernel) (by decide +kernel)
set_option maxRecDepth 20000 in
theorem gX4_add_X4_isSpeed : GoodIn wsX4_add (va_wsS RX4 99 yX4_isSpeed wsX4_isSpeed) := goodIn_app (goodIn_of _ (by decide +kernel)) ggX4_add_X4_isSpeed
set_option maxRecDepth 20000 in
theorem ggX4_add_X4_fails : GoodIn wsX4_add wsX4_fails := goodIn_r _ [15, 1, 38, 39, 40, 41, 42, 43, 44, 45, 46, 47, 48, 49, 50, 51, 52, 53, 54, 55, 56, 57, 58, 59] (by decide +kernel) (by decide +kernel)
set_option maxRecDepth 20000 in
theorem gX4_add_X4_fails : GoodIn wsX4_add (wsV RX4 102 RX4 yX4_fails wsX4_fails) := goodIn_app (goodIn_of _ (by decide +kernel)) ggX4_add_X4_fails
set_option maxRecDepth 20000 in
theorem ggX4_add_X4_freeSlot : GoodIn wsX4_add wsX4_freeSlot := goodIn_r _ [19, 20, 21, 22, 4, 23, 24, 25, 26, 27, 38, 39, 40, 41, 42, 43, 44, 45, 46, 47, 48, 49, 50, 51, 52, 53, 54, 55, 56, 57, 58, 59] (by decide +kernel) (by decide +kernel)
set_option maxRecDepth 20000 in
theorem gX4_add_X4_freeSlot : GoodIn wsX4_add (wsV RX4 92 RX4 yX4_freeSlot wsX4_freeSlot) := goodIn_app (goodIn_of _ (by decide +kernel)) ggX4_add_X4_freeSlot
set_option maxRecDepth 20000 in
theorem ggX4_add_X4_save : GoodIn wsX4_add wsX4_save := goodIn_r _ [31, 32, 33, 24, 38, 39, 40, 41, 42, 43, 44, 45, 46, 47, 48, 49, 50, 51, 52, 53, 54, 55, 56, 57, 58, 59] (by decide +kernel) (by decide +kernel)
set_option maxRecDepth 20000 in
theorem gX4_add_X4_save : GoodIn wsX4_add (wsV RX4 105 RX4 yX4_save wsX4_save) := goodIn_app (goodIn_of _ (by decide +kernel)) ggX4_add_X4_save
set_option maxRecDepth 20000 in
theorem ggX4_add_X4_addNow : GoodIn wsX4_add wsX4_addNow := goodIn_r _ [37, 24, 16, 17, 18, 4, 19, 20, 21, 22, 23, 25, 26, 27, 38, 39, 40, 41, 42, 43, 44, 45, 46, 47, 48, 49, 50, 51, 52, 53, 54, 55, 56, 57, 58, 59] (by decide +kernel) (by decide +kernel)
set_option maxRecDepth 20000 in
theorem gX4_add_X4_addNow : GoodIn wsX4_add (wsV RX4 108 RX4 yX4_addNow wsX4_addNow) := goodIn_app (goodIn_of _ (by decide +kernel)) ggX4_add_X4_addNow
theorem dX4_add_0 : decode cX4_add 0 = .ok (.aload_n 0, 1) := by decide +kernel
theorem dX4_add_1 : decode cX4_add 1 = .ok (.iconst 0, 1) := by decide +kernel
theorem dX4_add_2 : decode cX4_add 2 = .ok (.putfield 34, 3) := by decide +kernel
theorem dX4_add_5 : decode cX4_add 5 = .ok (.iload_n 1, 1) := by decide +kernel
theorem dX4_add_6 : decode cX4_add 6 = .ok (.invokestatic 96, 3) := by decide +kernel
theorem dX4_add_9 : decode cX4_add 9 = .ok (.ifCond .eq 10, 3) := by decide +kernel
theorem dX4_add_12 : decode cX4_add 12 = .ok (.iload_n 2, 1) := by decide +kernel
theorem dX4_add_13 : decode cX4_add 13 = .ok (.invokestatic 99, 3) := by decide +kernel
theorem dX4_add_16 : decode cX4_add 16 = .ok (.ifCond .ne 9, 3) := by decide +kernel
theorem dX4_add_19 : decode cX4_add 19 = .ok (.aload_n 0, 1) := by decide +kernel
theorem dX4_add_20 : decode cX4_add 20 = .ok (.iconst 1, 1) := by decide +kernel
theorem dX4_add_21 : decode cX4_add 21 = .ok (.invokevirtual 102, 3) := by decide +kernel
theorem dX4_add_24 : decode cX4_add 24 = .ok (.ireturn, 1) := by decide +kernel
theorem dX4_add_25 : decode cX4_add 25 = .ok (.aload_n 0, 1) := by decide +kernel
theorem dX4_add_26 : decode cX4_add 26 = .ok (.invokevirtual 92, 3) := by decide +kernel
theorem dX4_add_29 : decode cX4_add 29 = .ok (.iconst (-1), 1) := by decide +kernel
theorem dX4_add_30 : decode cX4_add 30 = .ok (.if_icmp .ne 9, 3) := by decide +kernel
theorem dX4_add_33 : decode cX4_add 33 = .ok (.aload_n 0, 1) := by decide +kernel
theorem dX4_add_34 : decode cX4_add 34 = .ok (.iconst 2, 1) := by decide +kernel
theorem dX4_add_35 : decode cX4_add 35 = .ok (.invokevirtual 102, 3) := by decide +kernel
theorem dX4_add_38 : decode cX4_add 38 = .ok (.ireturn, 1) := by decide +kernel
theorem dX4_add_39 : decode cX4_add 39 = .ok (.aload_n 0, 1) := by decide +kernel
theorem dX4_add_40 : decode cX4_add 40 = .ok (.invokevirtual 105, 3) := by decide +kernel
theorem dX4_add_43 : decode cX4_add 43 = .ok (.aload_n 0, 1) := by decide +kernel
theorem dX4_add_44 : decode cX4_add 44 = .ok (.iload_n 1, 1) := by decide +kernel
theorem dX4_add_45 : decode cX4_add 45 = .ok (.iload_n 2, 1) := by decide +kernel
theorem dX4_add_46 : decode cX4_add 46 = .ok (.invokevirtual 108, 3) := by decide +kernel
theorem dX4_add_49 : decode cX4_add 49 = .ok (.ireturn, 1) := by decide +kernel
set_option maxRecDepth 20000 in
theorem ggX4_remove_X4_isMover : GoodIn wsX4_remove wsX4_isMover := goodIn_r _ [7, 8, 9, 6, 10, 11, 12, 13, 14, 2, 15, 16, 17, 28, 29, 30, 31, 32, 33, 34, 35, 36, 37, 38, 39, 40, 41, 42, 43, 44, 45, 46, 47, 48, 49] (by decide +kernel) (by decide +kernel)
set_option maxRecDepth 20000 in
theorem gX4_remove_X4_isMover : GoodIn wsX4_remove (wsV RX4 111 RX4 yX4_isMover wsX4_isMover) := goodIn_app (goodIn_of _ (by decide +kernel)) ggX4_remove_X4_isMover
set_option maxRecDepth 20000 in
theorem ggX4_remove_X4_fails : GoodIn wsX4_remove wsX4_fails := goodIn_r _ [21, 1, 28, 29, 30, 31, 32, 33, 34, 35, 36, 37, 38, 39, 40, 41, 42, 43, 44, 45, 46, 47, 48, 49] (by decide +kernel) (by decide +kernel)
set_option maxRecDepth 20000 in
theorem gX4_remove_X4_fails : GoodIn wsX4_remove (wsV RX4 102 RX4 yX4_fails wsX4_fails) := goodIn_app (goodIn_of _ (by decide +kernel)) ggX4_remove_X4_fails
set_option maxRecDepth 20000 in
theorem ggX4_remove_X4_save : GoodIn wsX4_remove wsX4_save := goodIn_r _ [25, 26, 27, 2, 28, 29, 30, 31, 32, 33, 34, 35, 36, 37, 38, 39, 40, 41, 42, 43, 44, 45, 46, 47, 48, 49] (by decide +kernel) (by decide +kernel)
set_option maxRecDepth 20000 in
theorem gX4_remove_X4_save : GoodIn wsX4_remove (wsV RX4 105 RX4 yX4_save wsX4_save) := goodIn_app (goodIn_of _ (by decide +kernel)) ggX4_remove_X4_save
set_option maxRecDepth 20000 in
theorem ggX4_remove_X4_at : GoodIn wsX4_remove wsX4_at := goodIn_r _ [17] (by decide +kernel) (by decide +kernel)
set_option maxRecDepth 20000 in
theorem gX4_remove_X4_at : GoodIn wsX4_remove (va_wsS RX4 41 yX4_at wsX4_at) := goodIn_app (goodIn_of _ (by decide +kernel)) ggX4_remove_X4_at
theorem dX4_remove_0 : decode cX4_remove 0 = .ok (.aload_n 0, 1) := by decide +kernel
theorem dX4_remove_1 : decode cX4_remove 1 = .ok (.iconst 0, 1) := by decide +kernel
theorem dX4_remove_2 : decode cX4_remove 2 = .ok (.putfield 34, 3) := by decide +kernel
theorem dX4_remove_5 : decode cX4_remove 5 = .ok (.aload_n 0, 1) := by decide +kernel
theorem dX4_remove_6 : decode cX4_remove 6 = .ok (.iload_n 1, 1) := by decide +kernel
theorem dX4_remove_7 : decode cX4_remove 7 = .ok (.invokevirtual 111, 3) := by decide +kernel
theorem dX4_remove_10 : decode cX4_remove 10 = .ok (.ifCond .ne 9, 3) := by decide +kernel
theorem dX4_remove_13 : decode cX4_remove 13 = .ok (.aload_n 0, 1) := by decide +kernel
theorem dX4_remove_14 : decode cX4_remove 14 = .ok (.iconst 1, 1) := by decide +kernel
theorem dX4_remove_15 : decode cX4_remove 15 = .ok (.invokevirtual 102, 3) := by decide +kernel
theorem dX4_remove_18 : decode cX4_remove 18 = .ok (.ireturn, 1) := by decide +kernel
theorem dX4_remove_19 : decode cX4_remove 19 = .ok (.aload_n 0, 1) := by decide +kernel
theorem dX4_remove_20 : decode cX4_remove 20 = .ok (.invokevirtual 105, 3) := by decide +kernel
theorem dX4_remove_23 : decode cX4_remove 23 = .ok (.aload_n 0, 1) := by decide +kernel
theorem dX4_remove_24 : decode cX4_remove 24 = .ok (.getfield 7, 3) := by decide +kernel
theorem dX4_remove_27 : decode cX4_remove 27 = .ok (.iload_n 1, 1) := by decide +kernel
theorem dX4_remove_28 : decode cX4_remove 28 = .ok (.invokestatic 41, 3) := by decide +kernel
theorem dX4_remove_31 : decode cX4_remove 31 = .ok (.iconst 1, 1) := by decide +kernel
theorem dX4_remove_32 : decode cX4_remove 32 = .ok (.iadd, 1) := by decide +kernel
theorem dX4_remove_33 : decode cX4_remove 33 = .ok (.iaload, 1) := by decide +kernel
theorem dX4_remove_34 : decode cX4_remove 34 = .ok (.istore_n 2, 1) := by decide +kernel
theorem dX4_remove_35 : decode cX4_remove 35 = .ok (.iconst 0, 1) := by decide +kernel
theorem dX4_remove_36 : decode cX4_remove 36 = .ok (.istore_n 3, 1) := by decide +kernel
theorem dX4_remove_37 : decode cX4_remove 37 = .ok (.iload_n 3, 1) := by decide +kernel
theorem dX4_remove_38 : decode cX4_remove 38 = .ok (.iconst 4, 1) := by decide +kernel
theorem dX4_remove_39 : decode cX4_remove 39 = .ok (.if_icmp .ge 21, 3) := by decide +kernel
theorem dX4_remove_42 : decode cX4_remove 42 = .ok (.aload_n 0, 1) := by decide +kernel
theorem dX4_remove_43 : decode cX4_remove 43 = .ok (.getfield 7, 3) := by decide +kernel
theorem dX4_remove_46 : decode cX4_remove 46 = .ok (.iload_n 1, 1) := by decide +kernel
theorem dX4_remove_47 : decode cX4_remove 47 = .ok (.invokestatic 41, 3) := by decide +kernel
theorem dX4_remove_50 : decode cX4_remove 50 = .ok (.iload_n 3, 1) := by decide +kernel
theorem dX4_remove_51 : decode cX4_remove 51 = .ok (.iadd, 1) := by decide +kernel
theorem dX4_remove_52 : decode cX4_remove 52 = .ok (.iconst 0, 1) := by decide +kernel
theorem dX4_remove_53 : decode cX4_remove 53 = .ok (.iastore, 1) := by decide +kernel
theorem dX4_remove_54 : decode cX4_remove 54 = .ok (.iinc 3 1, 3) := by decide +kernel
theorem dX4_remove_57 : decode cX4_remove 57 = .ok (.goto (-20), 3) := by decide +kernel
theorem dX4_remove_60 : decode cX4_remove 60 = .ok (.iload_n 2, 1) := by decide +kernel
theorem dX4_remove_61 : decode cX4_remove 61 = .ok (.ireturn, 1) := by decide +kernel
set_option maxRecDepth 20000 in
theorem ggX4_speed_X4_isMover : GoodIn wsX4_speed wsX4_isMover := goodIn_r _ [7, 8, 9, 6, 10, 11, 12, 13, 14, 2, 15, 16, 17, 31, 32, 33, 34, 35, 36, 37, 38, 39, 40, 41, 42, 43, 44, 45, 46, 47, 48, 49, 50, 51, 52] (by decide +kernel) (by decide +kernel)
set_option maxRecDepth 20000 in
theorem gX4_speed_X4_isMover : GoodIn wsX4_speed (wsV RX4 111 RX4 yX4_isMover wsX4_isMover) := goodIn_app (goodIn_of _ (by decide +kernel)) ggX4_speed_X4_isMover
set_option maxRecDepth 20000 in
theorem ggX4_speed_X4_fails : GoodIn wsX4_speed wsX4_fails := goodIn_r _ [21, 1, 31, 32, 33, 34, 35, 36, 37, 38, 39, 40, 41, 42, 43, 44, 45, 46, 47, 48, 49, 50, 51, 52] (by decide +kernel) (by decide +kernel)
set_option maxRecDepth 20000 in
theorem gX4_speed_X4_fails : GoodIn wsX4_speed (wsV RX4 102 RX4 yX4_fails wsX4_fails) := goodIn_app (goodIn_of _ (by decide +kernel)) ggX4_speed_X4_fails
set_option maxRecDepth 20000 in
theorem ggX4_speed_X4_isSpeed : GoodIn wsX4_speed wsX4_isSpeed := goodIn_r _ [24, 8, 9, 6, 10] (by decide +kernel) (by decide +kernel)
set_option maxRecDepth 20000 in
theorem gX4_speed_X4_isSpeed : GoodIn wsX4_speed (va_wsS RX4 99 yX4_isSpeed wsX4_isSpeed) := goodIn_app (goodIn_of _ (by decide +kernel)) ggX4_speed_X4_isSpeed
set_option maxRecDepth 20000 in
theorem ggX4_speed_X4_save : GoodIn wsX4_speed wsX4_save := goodIn_r _ [28, 29, 30, 2, 31, 32, 33, 34, 35, 36, 37, 38, 39, 40, 41, 42, 43, 44, 45, 46, 47, 48, 49, 50, 51, 52] (by decide +kernel) (by decide +kernel)
set_option maxRecDepth 20000 in
theorem gX4_speed_X4_save : GoodIn wsX4_speed (wsV RX4 105 RX4 yX4_save wsX4_save) := goodIn_app (goodIn_of _ (by decide +kernel)) ggX4_speed_X4_save
set_option maxRecDepth 20000 in
theorem ggX4_speed_X4_at : GoodIn wsX4_speed wsX4_at := goodIn_r _ [17] (by decide +kernel) (by decide +kernel)
set_option maxRecDepth 20000 in
theorem gX4_speed_X4_at : GoodIn wsX4_speed (va_wsS RX4 41 yX4_at wsX4_at) := goodIn_app (goodIn_of _ (by decide +kernel)) ggX4_speed_X4_at
theorem dX4_speed_0 : decode cX4_speed 0 = .ok (.aload_n 0, 1) := by decide +kernel
theorem dX4_speed_1 : decode cX4_speed 1 = .ok (.iconst 0, 1) := by decide +kernel
theorem dX4_speed_2 : decode cX4_speed 2 = .ok (.putfield 34, 3) := by decide +kernel
theorem dX4_speed_5 : decode cX4_speed 5 = .ok (.aload_n 0, 1) := by decide +kernel
theorem dX4_speed_6 : decode cX4_speed 6 = .ok (.iload_n 1, 1) := by decide +kernel
theorem dX4_speed_7 : decode cX4_speed 7 = .ok (.invokevirtual 111, 3) := by decide +kernel
theorem dX4_speed_10 : decode cX4_speed 10 = .ok (.ifCond .ne 9, 3) := by decide +kernel
theorem dX4_speed_13 : decode cX4_speed 13 = .ok (.aload_n 0, 1) := by decide +kernel
theorem dX4_speed_14 : decode cX4_speed 14 = .ok (.iconst 1, 1) := by decide +kernel
theorem dX4_speed_15 : decode cX4_speed 15 = .ok (.invokevirtual 102, 3) := by decide +kernel
theorem dX4_speed_18 : decode cX4_speed 18 = .ok (.ireturn, 1) := by decide +kernel
theorem dX4_speed_19 : decode cX4_speed 19 = .ok (.iload_n 2, 1) := by decide +kernel
theorem dX4_speed_20 : decode cX4_speed 20 = .ok (.invokestatic 99, 3) := by decide +kernel
theorem dX4_speed_23 : decode cX4_speed 23 = .ok (.ifCond .ne 9, 3) := by decide +kernel
theorem dX4_speed_26 : decode cX4_speed 26 = .ok (.aload_n 0, 1) := by decide +kernel
theorem dX4_speed_27 : decode cX4_speed 27 = .ok (.iconst 2, 1) := by decide +kernel
theorem dX4_speed_28 : decode cX4_speed 28 = .ok (.invokevirtual 102, 3) := by decide +kernel
theorem dX4_speed_31 : decode cX4_speed 31 = .ok (.ireturn, 1) := by decide +kernel
theorem dX4_speed_32 : decode cX4_speed 32 = .ok (.aload_n 0, 1) := by decide +kernel
theorem dX4_speed_33 : decode cX4_speed 33 = .ok (.invokevirtual 105, 3) := by decide +kernel
theorem dX4_speed_36 : decode cX4_speed 36 = .ok (.aload_n 0, 1) := by decide +kernel
theorem dX4_speed_37 : decode cX4_speed 37 = .ok (.getfield 7, 3) := by decide +kernel
theorem dX4_speed_40 : decode cX4_speed 40 = .ok (.iload_n 1, 1) := by decide +kernel
theorem dX4_speed_41 : decode cX4_speed 41 = .ok (.invokestatic 41, 3) := by decide +kernel
theorem dX4_speed_44 : decode cX4_speed 44 = .ok (.iconst 2, 1) := by decide +kernel
theorem dX4_speed_45 : decode cX4_speed 45 = .ok (.iadd, 1) := by decide +kernel
theorem dX4_speed_46 : decode cX4_speed 46 = .ok (.iaload, 1) := by decide +kernel
theorem dX4_speed_47 : decode cX4_speed 47 = .ok (.istore_n 3, 1) := by decide +kernel
theorem dX4_speed_48 : decode cX4_speed 48 = .ok (.aload_n 0, 1) := by decide +kernel
theorem dX4_speed_49 : decode cX4_speed 49 = .ok (.getfield 7, 3) := by decide +kernel
theorem dX4_speed_52 : decode cX4_speed 52 = .ok (.iload_n 1, 1) := by decide +kernel
theorem dX4_speed_53 : decode cX4_speed 53 = .ok (.invokestatic 41, 3) := by decide +kernel
theorem dX4_speed_56 : decode cX4_speed 56 = .ok (.iconst 2, 1) := by decide +kernel
theorem dX4_speed_57 : decode cX4_speed 57 = .ok (.iadd, 1) := by decide +kernel
theorem dX4_speed_58 : decode cX4_speed 58 = .ok (.iload_n 2, 1) := by decide +kernel
theorem dX4_speed_59 : decode cX4_speed 59 = .ok (.iastore, 1) := by decide +kernel
theorem dX4_speed_60 : decode cX4_speed 60 = .ok (.iload_n 3, 1) := by decide +kernel
theorem dX4_speed_61 : decode cX4_speed 61 = .ok (.ireturn, 1) := by decide +kernel
set_option maxRecDepth 20000 in
theorem ggX4_jump_X4_isMover : GoodIn wsX4_jump wsX4_isMover := goodIn_r _ [9, 10, 11, 8, 12, 13, 14, 15, 16, 2, 17, 18, 19, 33, 34, 35, 36, 37, 38, 39, 40, 41, 42, 43, 44, 45, 46, 47, 48, 49, 50, 51, 52, 53, 54] (by decide +kernel) (by decide +kernel)
set_option maxRecDepth 20000 in
theorem gX4_jump_X4_isMover : GoodIn wsX4_jump (wsV RX4 111 RX4 yX4_isMover wsX4_isMover) := goodIn_app (goodIn_of _ (by decide +kernel)) ggX4_jump_X4_isMover
set_option maxRecDepth 20000 in
theorem ggX4_jump_X4_fails : GoodIn wsX4_jump wsX4_fails := goodIn_r _ [23, 1, 33, 34, 35, 36, 37, 38, 39, 40, 41, 42, 43, 44, 45, 46, 47, 48, 49, 50, 51, 52, 53, 54] (by decide +kernel) (by decide +kernel)
set_option maxRecDepth 20000 in
theorem gX4_jump_X4_fails : GoodIn wsX4_jump (wsV RX4 102 RX4 yX4_fails wsX4_fails) := goodIn_app (goodIn_of _ (by decide +kernel)) ggX4_jump_X4_fails
set_option maxRecDepth 20000 in
theorem ggX4_jump_X4_isValue : GoodIn wsX4_jump wsX4_isValue := goodIn_r _ [26, 10, 11, 8, 12] (by decide +kernel) (by decide +kernel)
set_option maxRecDepth 20000 in
theorem gX4_jump_X4_isValue : GoodIn wsX4_jump (va_wsS RX4 96 yX4_isValue wsX4_isValue) := goodIn_app (goodIn_of _ (by decide +kernel)) ggX4_jump_X4_isValue
set_option maxRecDepth 20000 in
theorem ggX4_jump_X4_at : GoodIn wsX4_jump wsX4_at := goodIn_r _ [19] (by decide +kernel) (by decide +kernel)
set_option maxRecDepth 20000 in
theorem gX4_jump_X4_at : GoodIn wsX4_jump (va_wsS RX4 41 yX4_at wsX4_at) := goodIn_app (goodIn_of _ (by decide +kernel)) ggX4_jump_X4_at
set_option maxRecDepth 20000 in
theorem ggX4_jump_X4_in : GoodIn wsX4_jump wsX4_in := goodIn_r _ [12] (by decide +kernel) (by decide +kernel)
set_option maxRecDepth 20000 in
theorem gX4_jump_X4_in : GoodIn wsX4_jump (va_wsS RX4 45 yX4_in wsX4_in) := goodIn_app (goodIn_of _ (by decide +kernel)) ggX4_jump_X4_in
set_option maxRecDepth 20000 in
theorem ggX4_jump_X4_save : GoodIn wsX4_jump wsX4_save := goodIn_r _ [30, 31, 32, 2, 33, 34, 35, 36, 37, 38, 39, 40, 41, 42, 43, 44, 45, 46, 47, 48, 49, 50, 51, 52, 53, 54] (by decide +kernel) (by decide +kernel)
set_option maxRecDepth 20000 in
theorem gX4_jump_X4_save : GoodIn wsX4_jump (wsV RX4 105 RX4 yX4_save wsX4_save) := goodIn_app (goodIn_of _ (by decide +kernel)) ggX4_jump_X4_save
theorem dX4_jump_0 : decode cX4_jump 0 = .ok (.aload_n 0, 1) := by decide +kernel
theorem dX4_jump_1 : decode cX4_jump 1 = .ok (.iconst 0, 1) := by decide +kernel
theorem dX4_jump_2 : decode cX4_jump 2 = .ok (.putfield 34, 3) := by decide +kernel
theorem dX4_jump_5 : decode cX4_jump 5 = .ok (.aload_n 0, 1) := by decide +kernel
theorem dX4_jump_6 : decode cX4_jump 6 = .ok (.iload_n 1, 1) := by decide +kernel
theorem dX4_jump_7 : decode cX4_jump 7 = .ok (.invokevirtual 111, 3) := by decide +kernel
theorem dX4_jump_10 : decode cX4_jump 10 = .ok (.ifCond .ne 9, 3) := by decide +kernel
theorem dX4_jump_13 : decode cX4_jump 13 = .ok (.aload_n 0, 1) := by decide +kernel
theorem dX4_jump_14 : decode cX4_jump 14 = .ok (.iconst 1, 1) := by decide +kernel
theorem dX4_jump_15 : decode cX4_jump 15 = .ok (.invokevirtual 102, 3) := by decide +kernel
theorem dX4_jump_18 : decode cX4_jump 18 = .ok (.ireturn, 1) := by decide +kernel
theorem dX4_jump_19 : decode cX4_jump 19 = .ok (.iload_n 2, 1) := by decide +kernel
theorem dX4_jump_20 : decode cX4_jump 20 = .ok (.invokestatic 96, 3) := by decide +kernel
theorem dX4_jump_23 : decode cX4_jump 23 = .ok (.ifCond .ne 9, 3) := by decide +kernel
theorem dX4_jump_26 : decode cX4_jump 26 = .ok (.aload_n 0, 1) := by decide +kernel
theorem dX4_jump_27 : decode cX4_jump 27 = .ok (.iconst 2, 1) := by decide +kernel
theorem dX4_jump_28 : decode cX4_jump 28 = .ok (.invokevirtual 102, 3) := by decide +kernel
theorem dX4_jump_31 : decode cX4_jump 31 = .ok (.ireturn, 1) := by decide +kernel
theorem dX4_jump_32 : decode cX4_jump 32 = .ok (.aload_n 0, 1) := by decide +kernel
theorem dX4_jump_33 : decode cX4_jump 33 = .ok (.getfield 7, 3) := by decide +kernel
theorem dX4_jump_36 : decode cX4_jump 36 = .ok (.iload_n 1, 1) := by decide +kernel
theorem dX4_jump_37 : decode cX4_jump 37 = .ok (.invokestatic 41, 3) := by decide +kernel
theorem dX4_jump_40 : decode cX4_jump 40 = .ok (.iconst 1, 1) := by decide +kernel
theorem dX4_jump_41 : decode cX4_jump 41 = .ok (.iadd, 1) := by decide +kernel
theorem dX4_jump_42 : decode cX4_jump 42 = .ok (.iaload, 1) := by decide +kernel
theorem dX4_jump_43 : decode cX4_jump 43 = .ok (.iload_n 2, 1) := by decide +kernel
theorem dX4_jump_44 : decode cX4_jump 44 = .ok (.iadd, 1) := by decide +kernel
theorem dX4_jump_45 : decode cX4_jump 45 = .ok (.istore_n 3, 1) := by decide +kernel
theorem dX4_jump_46 : decode cX4_jump 46 = .ok (.iload_n 3, 1) := by decide +kernel
theorem dX4_jump_47 : decode cX4_jump 47 = .ok (.ldc 114, 2) := by decide +kernel
theorem dX4_jump_49 : decode cX4_jump 49 = .ok (.ldc 115, 2) := by decide +kernel
theorem dX4_jump_51 : decode cX4_jump 51 = .ok (.invokestatic 45, 3) := by decide +kernel
theorem dX4_jump_54 : decode cX4_jump 54 = .ok (.ifCond .ne 9, 3) := by decide +kernel
theorem dX4_jump_57 : decode cX4_jump 57 = .ok (.aload_n 0, 1) := by decide +kernel
theorem dX4_jump_58 : decode cX4_jump 58 = .ok (.iconst 3, 1) := by decide +kernel
theorem dX4_jump_59 : decode cX4_jump 59 = .ok (.invokevirtual 102, 3) := by decide +kernel
theorem dX4_jump_62 : decode cX4_jump 62 = .ok (.ireturn, 1) := by decide +kernel
theorem dX4_jump_63 : decode cX4_jump 63 = .ok (.aload_n 0, 1) := by decide +kernel
theorem dX4_jump_64 : decode cX4_jump 64 = .ok (.invokevirtual 105, 3) := by decide +kernel
theorem dX4_jump_67 : decode cX4_jump 67 = .ok (.aload_n 0, 1) := by decide +kernel
theorem dX4_jump_68 : decode cX4_jump 68 = .ok (.getfield 7, 3) := by decide +kernel
theorem dX4_jump_71 : decode cX4_jump 71 = .ok (.iload_n 1, 1) := by decide +kernel
theorem dX4_jump_72 : decode cX4_jump 72 = .ok (.invokestatic 41, 3) := by decide +kernel
theorem dX4_jump_75 : decode cX4_jump 75 = .ok (.iconst 1, 1) := by decide +kernel
theorem dX4_jump_76 : decode cX4_jump 76 = .ok (.iadd, 1) := by decide +kernel
theorem dX4_jump_77 : decode cX4_jump 77 = .ok (.iload_n 3, 1) := by decide +kernel
theorem dX4_jump_78 : decode cX4_jump 78 = .ok (.iastore, 1) := by decide +kernel
theorem dX4_jump_79 : decode cX4_jump 79 = .ok (.iload_n 3, 1) := by decide +kernel
theorem dX4_jump_80 : decode cX4_jump 80 = .ok (.ireturn, 1) := by decide +kernel
set_option maxRecDepth 20000 in
theorem ggX4_swap_X4_in : GoodIn wsX4_swap wsX4_in := goodIn_r _ [7] (by decide +kernel) (by decide +kernel)
set_option maxRecDepth 20000 in
theorem gX4_swap_X4_in : GoodIn wsX4_swap (va_wsS RX4 45 yX4_in wsX4_in) := goodIn_app (goodIn_of _ (by decide +kernel)) ggX4_swap_X4_in
set_option maxRecDepth 20000 in
theorem ggX4_swap_X4_fails : GoodIn wsX4_swap wsX4_fails := goodIn_r _ [11, 1, 43, 44, 45, 46, 47, 48, 49, 50, 51, 52, 53, 54, 55, 56, 57, 58, 59, 60, 61, 62, 63, 64] (by decide +kernel) (by decide +kernel)
set_option maxRecDepth 20000 in
theorem gX4_swap_X4_fails : GoodIn wsX4_swap (wsV RX4 102 RX4 yX4_fails wsX4_fails) := goodIn_app (goodIn_of _ (by decide +kernel)) ggX4_swap_X4_fails
set_option maxRecDepth 20000 in
theorem ggX4_swap_X4_save : GoodIn wsX4_swap wsX4_save := goodIn_r _ [15, 16, 17, 3, 43, 44, 45, 46, 47, 48, 49, 50, 51, 52, 53, 54, 55, 56, 57, 58, 59, 60, 61, 62, 63, 64] (by decide +kernel) (by decide +kernel)
set_option maxRecDepth 20000 in
theorem gX4_swap_X4_save : GoodIn wsX4_swap (wsV RX4 105 RX4 yX4_save wsX4_save) := goodIn_app (goodIn_of _ (by decide +kernel)) ggX4_swap_X4_save
set_option maxRecDepth 20000 in
theorem ggX4_swap_X4_winnerOf : GoodIn wsX4_swap wsX4_winnerOf := goodIn_r _ [21, 22, 23, 24, 6, 25, 26, 27, 28, 29, 30, 31, 32, 33, 34, 35, 3, 36, 37, 38, 39, 40, 41, 42, 43, 44, 45, 46, 47, 48, 49, 50, 51, 52, 53, 54, 55, 56, 57, 58, 59, 60, 61, 62, 63, 64] (by decide +kernel) (by decide +kernel)
set_option maxRecDepth 20000 in
theorem gX4_swap_X4_winnerOf : GoodIn wsX4_swap (wsV RX4 78 RX4 yX4_winnerOf wsX4_winnerOf) := goodIn_app (goodIn_of _ (by decide +kernel)) ggX4_swap_X4_winnerOf
set_option maxRecDepth 20000 in
theorem ggX4_swap_X4_at : GoodIn wsX4_swap wsX4_at := goodIn_r _ [38] (by decide +kernel) (by decide +kernel)
set_option maxRecDepth 20000 in
theorem gX4_swap_X4_at : GoodIn wsX4_swap (va_wsS RX4 41 yX4_at wsX4_at) := goodIn_app (goodIn_of _ (by decide +kernel)) ggX4_swap_X4_at
theorem dX4_swap_0 : decode cX4_swap 0 = .ok (.aload_n 0, 1) := by decide +kernel
theorem dX4_swap_1 : decode cX4_swap 1 = .ok (.iconst 0, 1) := by decide +kernel
theorem dX4_swap_2 : decode cX4_swap 2 = .ok (.putfield 34, 3) := by decide +kernel
theorem dX4_swap_5 : decode cX4_swap 5 = .ok (.iload_n 1, 1) := by decide +kernel
theorem dX4_swap_6 : decode cX4_swap 6 = .ok (.iconst 0, 1) := by decide +kernel
theorem dX4_swap_7 : decode cX4_swap 7 = .ok (.bipush 15, 2) := by decide +kernel
theorem dX4_swap_9 : decode cX4_swap 9 = .ok (.invokestatic 45, 3) := by decide +kernel
theorem dX4_swap_12 : decode cX4_swap 12 = .ok (.ifCond .eq 13, 3) := by decide +kernel
theorem dX4_swap_15 : decode cX4_swap 15 = .ok (.iload_n 2, 1) := by decide +kernel
theorem dX4_swap_16 : decode cX4_swap 16 = .ok (.iconst 0, 1) := by decide +kernel
theorem dX4_swap_17 : decode cX4_swap 17 = .ok (.bipush 15, 2) := by decide +kernel
theorem dX4_swap_19 : decode cX4_swap 19 = .ok (.invokestatic 45, 3) := by decide +kernel
theorem dX4_swap_22 : decode cX4_swap 22 = .ok (.ifCond .ne 9, 3) := by decide +kernel
theorem dX4_swap_25 : decode cX4_swap 25 = .ok (.aload_n 0, 1) := by decide +kernel
theorem dX4_swap_26 : decode cX4_swap 26 = .ok (.iconst 1, 1) := by decide +kernel
theorem dX4_swap_27 : decode cX4_swap 27 = .ok (.invokevirtual 102, 3) := by decide +kernel
theorem dX4_swap_30 : decode cX4_swap 30 = .ok (.ireturn, 1) := by decide +kernel
theorem dX4_swap_31 : decode cX4_swap 31 = .ok (.aload_n 0, 1) := by decide +kernel
theorem dX4_swap_32 : decode cX4_swap 32 = .ok (.invokevirtual 105, 3) := by decide +kernel
theorem dX4_swap_35 : decode cX4_swap 35 = .ok (.iconst 1, 1) := by decide +kernel
theorem dX4_swap_36 : decode cX4_swap 36 = .ok (.istore_n 3, 1) := by decide +kernel
theorem dX4_swap_37 : decode cX4_swap 37 = .ok (.iload_n 3, 1) := by decide +kernel
theorem dX4_swap_38 : decode cX4_swap 38 = .ok (.bipush 15, 2) := by decide +kernel
theorem dX4_swap_40 : decode cX4_swap 40 = .ok (.if_icmp .gt 20, 3) := by decide +kernel
theorem dX4_swap_43 : decode cX4_swap 43 = .ok (.aload_n 0, 1) := by decide +kernel
theorem dX4_swap_44 : decode cX4_swap 44 = .ok (.getfield 19, 3) := by decide +kernel
theorem dX4_swap_47 : decode cX4_swap 47 = .ok (.iload_n 3, 1) := by decide +kernel
theorem dX4_swap_48 : decode cX4_swap 48 = .ok (.aload_n 0, 1) := by decide +kernel
theorem dX4_swap_49 : decode cX4_swap 49 = .ok (.iload_n 3, 1) := by decide +kernel
theorem dX4_swap_50 : decode cX4_swap 50 = .ok (.invokevirtual 78, 3) := by decide +kernel
theorem dX4_swap_53 : decode cX4_swap 53 = .ok (.iastore, 1) := by decide +kernel
theorem dX4_swap_54 : decode cX4_swap 54 = .ok (.iinc 3 1, 3) := by decide +kernel
theorem dX4_swap_57 : decode cX4_swap 57 = .ok (.goto (-20), 3) := by decide +kernel
theorem dX4_swap_60 : decode cX4_swap 60 = .ok (.iconst 0, 1) := by decide +kernel
theorem dX4_swap_61 : decode cX4_swap 61 = .ok (.istore_n 3, 1) := by decide +kernel
theorem dX4_swap_62 : decode cX4_swap 62 = .ok (.iload_n 3, 1) := by decide +kernel
theorem dX4_swap_63 : decode cX4_swap 63 = .ok (.iconst 4, 1) := by decide +kernel
theorem dX4_swap_64 : decode cX4_swap 64 = .ok (.if_icmp .ge 57, 3) := by decide +kernel
theorem dX4_swap_67 : decode cX4_swap 67 = .ok (.aload_n 0, 1) := by decide +kernel
theorem dX4_swap_68 : decode cX4_swap 68 = .ok (.getfield 7, 3) := by decide +kernel
theorem dX4_swap_71 : decode cX4_swap 71 = .ok (.iload_n 1, 1) := by decide +kernel
theorem dX4_swap_72 : decode cX4_swap 72 = .ok (.invokestatic 41, 3) := by decide +kernel
theorem dX4_swap_75 : decode cX4_swap 75 = .ok (.iload_n 3, 1) := by decide +kernel
theorem dX4_swap_76 : decode cX4_swap 76 = .ok (.iadd, 1) := by decide +kernel
theorem dX4_swap_77 : decode cX4_swap 77 = .ok (.iaload, 1) := by decide +kernel
theorem dX4_swap_78 : decode cX4_swap 78 = .ok (.istore 4, 2) := by decide +kernel
theorem dX4_swap_80 : decode cX4_swap 80 = .ok (.aload_n 0, 1) := by decide +kernel
theorem dX4_swap_81 : decode cX4_swap 81 = .ok (.getfield 7, 3) := by decide +kernel
theorem dX4_swap_84 : decode cX4_swap 84 = .ok (.iload_n 1, 1) := by decide +kernel
theorem dX4_swap_85 : decode cX4_swap 85 = .ok (.invokestatic 41, 3) := by decide +kernel
theorem dX4_swap_88 : decode cX4_swap 88 = .ok (.iload_n 3, 1) := by decide +kernel
theorem dX4_swap_89 : decode cX4_swap 89 = .ok (.iadd, 1) := by decide +kernel
theorem dX4_swap_90 : decode cX4_swap 90 = .ok (.aload_n 0, 1) := by decide +kernel
theorem dX4_swap_91 : decode cX4_swap 91 = .ok (.getfield 7, 3) := by decide +kernel
theorem dX4_swap_94 : decode cX4_swap 94 = .ok (.iload_n 2, 1) := by decide +kernel
theorem dX4_swap_95 : decode cX4_swap 95 = .ok (.invokestatic 41, 3) := by decide +kernel
theorem dX4_swap_98 : decode cX4_swap 98 = .ok (.iload_n 3, 1) := by decide +kernel
theorem dX4_swap_99 : decode cX4_swap 99 = .ok (.iadd, 1) := by decide +kernel
theorem dX4_swap_100 : decode cX4_swap 100 = .ok (.iaload, 1) := by decide +kernel
theorem dX4_swap_101 : decode cX4_swap 101 = .ok (.iastore, 1) := by decide +kernel
theorem dX4_swap_102 : decode cX4_swap 102 = .ok (.aload_n 0, 1) := by decide +kernel
theorem dX4_swap_103 : decode cX4_swap 103 = .ok (.getfield 7, 3) := by decide +kernel
theorem dX4_swap_106 : decode cX4_swap 106 = .ok (.iload_n 2, 1) := by decide +kernel
theorem dX4_swap_107 : decode cX4_swap 107 = .ok (.invokestatic 41, 3) := by decide +kernel
theorem dX4_swap_110 : decode cX4_swap 110 = .ok (.iload_n 3, 1) := by decide +kernel
theorem dX4_swap_111 : decode cX4_swap 111 = .ok (.iadd, 1) := by decide +kernel
theorem dX4_swap_112 : decode cX4_swap 112 = .ok (.iload 4, 2) := by decide +kernel
theorem dX4_swap_114 : decode cX4_swap 114 = .ok (.iastore, 1) := by decide +kernel
theorem dX4_swap_115 : decode cX4_swap 115 = .ok (.iinc 3 1, 3) := by decide +kernel
theorem dX4_swap_118 : decode cX4_swap 118 = .ok (.goto (-56), 3) := by decide +kernel
theorem dX4_swap_121 : decode cX4_swap 121 = .ok (.iconst 0, 1) := by decide +kernel
theorem dX4_swap_122 : decode cX4_swap 122 = .ok (.istore_n 3, 1) := by decide +kernel
theorem dX4_swap_123 : decode cX4_swap 123 = .ok (.iconst 1, 1) := by decide +kernel
theorem dX4_swap_124 : decode cX4_swap 124 = .ok (.istore 4, 2) := by decide +kernel
theorem dX4_swap_126 : decode cX4_swap 126 = .ok (.iload 4, 2) := by decide +kernel
theorem dX4_swap_128 : decode cX4_swap 128 = .ok (.bipush 15, 2) := by decide +kernel
theorem dX4_swap_130 : decode cX4_swap 130 = .ok (.if_icmp .gt 61, 3) := by decide +kernel
theorem dX4_swap_133 : decode cX4_swap 133 = .ok (.aload_n 0, 1) := by decide +kernel
theorem dX4_swap_134 : decode cX4_swap 134 = .ok (.iload 4, 2) := by decide +kernel
theorem dX4_swap_136 : decode cX4_swap 136 = .ok (.invokevirtual 78, 3) := by decide +kernel
theorem dX4_swap_139 : decode cX4_swap 139 = .ok (.istore 5, 2) := by decide +kernel
theorem dX4_swap_141 : decode cX4_swap 141 = .ok (.iload 5, 2) := by decide +kernel
theorem dX4_swap_143 : decode cX4_swap 143 = .ok (.iload_n 1, 1) := by decide +kernel
theorem dX4_swap_144 : decode cX4_swap 144 = .ok (.if_icmp .ne 7, 3) := by decide +kernel
theorem dX4_swap_147 : decode cX4_swap 147 = .ok (.iload_n 2, 1) := by decide +kernel
theorem dX4_swap_148 : decode cX4_swap 148 = .ok (.goto 15, 3) := by decide +kernel
theorem dX4_swap_151 : decode cX4_swap 151 = .ok (.iload 5, 2) := by decide +kernel
theorem dX4_swap_153 : decode cX4_swap 153 = .ok (.iload_n 2, 1) := by decide +kernel
theorem dX4_swap_154 : decode cX4_swap 154 = .ok (.if_icmp .ne 7, 3) := by decide +kernel
theorem dX4_swap_157 : decode cX4_swap 157 = .ok (.iload_n 1, 1) := by decide +kernel
theorem dX4_swap_158 : decode cX4_swap 158 = .ok (.goto 5, 3) := by decide +kernel
theorem dX4_swap_161 : decode cX4_swap 161 = .ok (.iload 5, 2) := by decide +kernel
theorem dX4_swap_163 : decode cX4_swap 163 = .ok (.istore 6, 2) := by decide +kernel
theorem dX4_swap_165 : decode cX4_swap 165 = .ok (.iload_n 3, 1) := by decide +kernel
theorem dX4_swap_166 : decode cX4_swap 166 = .ok (.iload 6, 2) := by decide +kernel
theorem dX4_swap_168 : decode cX4_swap 168 = .ok (.aload_n 0, 1) := by decide +kernel
theorem dX4_swap_169 : decode cX4_swap 169 = .ok (.getfield 19, 3) := by decide +kernel
theorem dX4_swap_172 : decode cX4_swap 172 = .ok (.iload 4, 2) := by decide +kernel
theorem dX4_swap_174 : decode cX4_swap 174 = .ok (.iaload, 1) := by decide +kernel
theorem dX4_swap_175 : decode cX4_swap 175 = .ok (.if_icmp .eq 7, 3) := by decide +kernel
theorem dX4_swap_178 : decode cX4_swap 178 = .ok (.iconst 1, 1) := by decide +kernel
theorem dX4_swap_179 : decode cX4_swap 179 = .ok (.goto 4, 3) := by decide +kernel
theorem dX4_swap_182 : decode cX4_swap 182 = .ok (.iconst 0, 1) := by decide +kernel
theorem dX4_swap_183 : decode cX4_swap 183 = .ok (.iadd, 1) := by decide +kernel
theorem dX4_swap_184 : decode cX4_swap 184 = .ok (.istore_n 3, 1) := by decide +kernel
theorem dX4_swap_185 : decode cX4_swap 185 = .ok (.iinc 4 1, 3) := by decide +kernel
theorem dX4_swap_188 : decode cX4_swap 188 = .ok (.goto (-62), 3) := by decide +kernel
theorem dX4_swap_191 : decode cX4_swap 191 = .ok (.iload_n 3, 1) := by decide +kernel
theorem dX4_swap_192 : decode cX4_swap 192 = .ok (.ireturn, 1) := by decide +kernel
set_option maxRecDepth 20000 in
theorem ggX4_passNow_X4_turnsOf : GoodIn wsX4_passNow wsX4_turnsOf := goodIn_r _ [6, 7, 8, 9, 10, 11, 12, 5, 13, 14, 15, 16, 17, 18, 19, 20, 21, 22, 23, 24, 25, 26, 27, 1, 28, 29, 30, 31, 32, 33, 34, 35, 36, 37, 38, 39, 40, 41, 42, 43, 44, 45, 46, 47, 48, 49, 50, 51, 52, 53, 54, 55, 56, 57, 58, 59, 60, 61] (by decide +kernel) (by decide +kernel)
set_option maxRecDepth 20000 in
theorem gX4_passNow_X4_turnsOf : GoodIn wsX4_passNow (wsV RX4 85 RX4 yX4_turnsOf wsX4_turnsOf) := goodIn_app (goodIn_of _ (by decide +kernel)) ggX4_passNow_X4_turnsOf
set_option maxRecDepth 20000 in
theorem ggX4_passNow_X4_at : GoodIn wsX4_passNow wsX4_at := goodIn_r _ [30] (by decide +kernel) (by decide +kernel)
set_option maxRecDepth 20000 in
theorem gX4_passNow_X4_at : GoodIn wsX4_passNow (va_wsS RX4 41 yX4_at wsX4_at) := goodIn_app (goodIn_of _ (by decide +kernel)) ggX4_passNow_X4_at
theorem dX4_passNow_0 : decode cX4_passNow 0 = .ok (.iconst 0, 1) := by decide +kernel
theorem dX4_passNow_1 : decode cX4_passNow 1 = .ok (.istore_n 2, 1) := by decide +kernel
theorem dX4_passNow_2 : decode cX4_passNow 2 = .ok (.iconst 1, 1) := by decide +kernel
theorem dX4_passNow_3 : decode cX4_passNow 3 = .ok (.istore_n 3, 1) := by decide +kernel
theorem dX4_passNow_4 : decode cX4_passNow 4 = .ok (.iload_n 3, 1) := by decide +kernel
theorem dX4_passNow_5 : decode cX4_passNow 5 = .ok (.bipush 15, 2) := by decide +kernel
theorem dX4_passNow_7 : decode cX4_passNow 7 = .ok (.if_icmp .gt 35, 3) := by decide +kernel
theorem dX4_passNow_10 : decode cX4_passNow 10 = .ok (.aload_n 0, 1) := by decide +kernel
theorem dX4_passNow_11 : decode cX4_passNow 11 = .ok (.iload_n 3, 1) := by decide +kernel
theorem dX4_passNow_12 : decode cX4_passNow 12 = .ok (.iload_n 1, 1) := by decide +kernel
theorem dX4_passNow_13 : decode cX4_passNow 13 = .ok (.invokevirtual 85, 3) := by decide +kernel
theorem dX4_passNow_16 : decode cX4_passNow 16 = .ok (.istore 4, 2) := by decide +kernel
theorem dX4_passNow_18 : decode cX4_passNow 18 = .ok (.aload_n 0, 1) := by decide +kernel
theorem dX4_passNow_19 : decode cX4_passNow 19 = .ok (.getfield 7, 3) := by decide +kernel
theorem dX4_passNow_22 : decode cX4_passNow 22 = .ok (.iconst 3, 1) := by decide +kernel
theorem dX4_passNow_23 : decode cX4_passNow 23 = .ok (.iload_n 3, 1) := by decide +kernel
theorem dX4_passNow_24 : decode cX4_passNow 24 = .ok (.iadd, 1) := by decide +kernel
theorem dX4_passNow_25 : decode cX4_passNow 25 = .ok (.dup2, 1) := by decide +kernel
theorem dX4_passNow_26 : decode cX4_passNow 26 = .ok (.iaload, 1) := by decide +kernel
theorem dX4_passNow_27 : decode cX4_passNow 27 = .ok (.iload 4, 2) := by decide +kernel
theorem dX4_passNow_29 : decode cX4_passNow 29 = .ok (.iadd, 1) := by decide +kernel
theorem dX4_passNow_30 : decode cX4_passNow 30 = .ok (.iastore, 1) := by decide +kernel
theorem dX4_passNow_31 : decode cX4_passNow 31 = .ok (.iload_n 2, 1) := by decide +kernel
theorem dX4_passNow_32 : decode cX4_passNow 32 = .ok (.iload 4, 2) := by decide +kernel
theorem dX4_passNow_34 : decode cX4_passNow 34 = .ok (.iadd, 1) := by decide +kernel
theorem dX4_passNow_35 : decode cX4_passNow 35 = .ok (.istore_n 2, 1) := by decide +kernel
theorem dX4_passNow_36 : decode cX4_passNow 36 = .ok (.iinc 3 1, 3) := by decide +kernel
theorem dX4_passNow_39 : decode cX4_passNow 39 = .ok (.goto (-35), 3) := by decide +kernel
theorem dX4_passNow_42 : decode cX4_passNow 42 = .ok (.iconst 0, 1) := by decide +kernel
theorem dX4_passNow_43 : decode cX4_passNow 43 = .ok (.istore_n 3, 1) := by decide +kernel
theorem dX4_passNow_44 : decode cX4_passNow 44 = .ok (.iload_n 3, 1) := by decide +kernel
theorem dX4_passNow_45 : decode cX4_passNow 45 = .ok (.bipush 16, 2) := by decide +kernel
theorem dX4_passNow_47 : decode cX4_passNow 47 = .ok (.if_icmp .ge 36, 3) := by decide +kernel
theorem dX4_passNow_50 : decode cX4_passNow 50 = .ok (.aload_n 0, 1) := by decide +kernel
theorem dX4_passNow_51 : decode cX4_passNow 51 = .ok (.getfield 7, 3) := by decide +kernel
theorem dX4_passNow_54 : decode cX4_passNow 54 = .ok (.iload_n 3, 1) := by decide +kernel
theorem dX4_passNow_55 : decode cX4_passNow 55 = .ok (.invokestatic 41, 3) := by decide +kernel
theorem dX4_passNow_58 : decode cX4_passNow 58 = .ok (.iconst 1, 1) := by decide +kernel
theorem dX4_passNow_59 : decode cX4_passNow 59 = .ok (.iadd, 1) := by decide +kernel
theorem dX4_passNow_60 : decode cX4_passNow 60 = .ok (.dup2, 1) := by decide +kernel
theorem dX4_passNow_61 : decode cX4_passNow 61 = .ok (.iaload, 1) := by decide +kernel
theorem dX4_passNow_62 : decode cX4_passNow 62 = .ok (.aload_n 0, 1) := by decide +kernel
theorem dX4_passNow_63 : decode cX4_passNow 63 = .ok (.getfield 7, 3) := by decide +kernel
theorem dX4_passNow_66 : decode cX4_passNow 66 = .ok (.iload_n 3, 1) := by decide +kernel
theorem dX4_passNow_67 : decode cX4_passNow 67 = .ok (.invokestatic 41, 3) := by decide +kernel
theorem dX4_passNow_70 : decode cX4_passNow 70 = .ok (.iconst 2, 1) := by decide +kernel
theorem dX4_passNow_71 : decode cX4_passNow 71 = .ok (.iadd, 1) := by decide +kernel
theorem dX4_passNow_72 : decode cX4_passNow 72 = .ok (.iaload, 1) := by decide +kernel
theorem dX4_passNow_73 : decode cX4_passNow 73 = .ok (.iload_n 1, 1) := by decide +kernel
theorem dX4_passNow_74 : decode cX4_passNow 74 = .ok (.imul, 1) := by decide +kernel
theorem dX4_passNow_75 : decode cX4_passNow 75 = .ok (.iadd, 1) := by decide +kernel
theorem dX4_passNow_76 : decode cX4_passNow 76 = .ok (.iastore, 1) := by decide +kernel
theorem dX4_passNow_77 : decode cX4_passNow 77 = .ok (.iinc 3 1, 3) := by decide +kernel
theorem dX4_passNow_80 : decode cX4_passNow 80 = .ok (.goto (-36), 3) := by decide +kernel
theorem dX4_passNow_83 : decode cX4_passNow 83 = .ok (.aload_n 0, 1) := by decide +kernel
theorem dX4_passNow_84 : decode cX4_passNow 84 = .ok (.getfield 7, 3) := by decide +kernel
theorem dX4_passNow_87 : decode cX4_passNow 87 = .ok (.iconst 0, 1) := by decide +kernel
theorem dX4_passNow_88 : decode cX4_passNow 88 = .ok (.dup2, 1) := by decide +kernel
theorem dX4_passNow_89 : decode cX4_passNow 89 = .ok (.iaload, 1) := by decide +kernel
theorem dX4_passNow_90 : decode cX4_passNow 90 = .ok (.iload_n 1, 1) := by decide +kernel
theorem dX4_passNow_91 : decode cX4_passNow 91 = .ok (.iadd, 1) := by decide +kernel
theorem dX4_passNow_92 : decode cX4_passNow 92 = .ok (.iastore, 1) := by decide +kernel
theorem dX4_passNow_93 : decode cX4_passNow 93 = .ok (.iload_n 2, 1) := by decide +kernel
theorem dX4_passNow_94 : decode cX4_passNow 94 = .ok (.ireturn, 1) := by decide +kernel
set_option maxRecDepth 20000 in
theorem ggX4_pass_X4_in : GoodIn wsX4_pass wsX4_in := goodIn_r _ [6] (by decide +kernel) (by decide +kernel)
set_option maxRecDepth 20000 in
theorem gX4_pass_X4_in : GoodIn wsX4_pass (va_wsS RX4 45 yX4_in wsX4_in) := goodIn_app (goodIn_of _ (by decide +kernel)) ggX4_pass_X4_in
set_option maxRecDepth 20000 in
theorem ggX4_pass_X4_fails : GoodIn wsX4_pass wsX4_fails := goodIn_r _ [10, 1, 58, 59, 60, 61, 62, 63, 64, 65, 66, 67, 68, 69, 70, 71, 72, 73, 74, 75, 76, 77, 78, 79] (by decide +kernel) (by decide +kernel)
set_option maxRecDepth 20000 in
theorem gX4_pass_X4_fails : GoodIn wsX4_pass (wsV RX4 102 RX4 yX4_fails wsX4_fails) := goodIn_app (goodIn_of _ (by decide +kernel)) ggX4_pass_X4_fails
set_option maxRecDepth 20000 in
theorem ggX4_pass_X4_save : GoodIn wsX4_pass wsX4_save := goodIn_r _ [14, 15, 16, 2, 58, 59, 60, 61, 62, 63, 64, 65, 66, 67, 68, 69, 70, 71, 72, 73, 74, 75, 76, 77, 78, 79] (by decide +kernel) (by decide +kernel)
set_option maxRecDepth 20000 in
theorem gX4_pass_X4_save : GoodIn wsX4_pass (wsV RX4 105 RX4 yX4_save wsX4_save) := goodIn_app (goodIn_of _ (by decide +kernel)) ggX4_pass_X4_save
set_option maxRecDepth 20000 in
theorem ggX4_pass_X4_passNow : GoodIn wsX4_pass wsX4_passNow := goodIn_r _ [20, 2, 21, 22, 23, 5, 24, 25, 26, 27, 28, 29, 30, 31, 32, 33, 34, 35, 36, 37, 38, 39, 40, 41, 42, 43, 44, 45, 46, 47, 48, 49, 50, 51, 52, 53, 54, 55, 56, 57, 58, 59, 60, 61, 62, 63, 64, 65, 66, 67, 68, 69, 70, 71, 72, 73, 74, 75, 76, 77, 78, 79] (by decide +kernel) (by decide +kernel)
set_option maxRecDepth 20000 in
theorem gX4_pass_X4_passNow : GoodIn wsX4_pass (wsV RX4 116 RX4 yX4_passNow wsX4_passNow) := goodIn_app (goodIn_of _ (by decide +kernel)) ggX4_pass_X4_passNow
theorem dX4_pass_0 : decode cX4_pass 0 = .ok (.aload_n 0, 1) := by decide +kernel
theorem dX4_pass_1 : decode cX4_pass 1 = .ok (.iconst 0, 1) := by decide +kernel
theorem dX4_pass_2 : decode cX4_pass 2 = .ok (.putfield 34, 3) := by decide +kernel
theorem dX4_pass_5 : decode cX4_pass 5 = .ok (.iload_n 1, 1) := by decide +kernel
theorem dX4_pass_6 : decode cX4_pass 6 = .ok (.iconst 1, 1) := by decide +kernel
theorem dX4_pass_7 : decode cX4_pass 7 = .ok (.bipush 99, 2) := by decide +kernel
theorem dX4_pass_9 : decode cX4_pass 9 = .ok (.invokestatic 45, 3) := by decide +kernel
theorem dX4_pass_12 : decode cX4_pass 12 = .ok (.ifCond .ne 9, 3) := by decide +kernel
theorem dX4_pass_15 : decode cX4_pass 15 = .ok (.aload_n 0, 1) := by decide +kernel
theorem dX4_pass_16 : decode cX4_pass 16 = .ok (.iconst 1, 1) := by decide +kernel
theorem dX4_pass_17 : decode cX4_pass 17 = .ok (.invokevirtual 102, 3) := by decide +kernel
theorem dX4_pass_20 : decode cX4_pass 20 = .ok (.ireturn, 1) := by decide +kernel
theorem dX4_pass_21 : decode cX4_pass 21 = .ok (.aload_n 0, 1) := by decide +kernel
theorem dX4_pass_22 : decode cX4_pass 22 = .ok (.getfield 7, 3) := by decide +kernel
theorem dX4_pass_25 : decode cX4_pass 25 = .ok (.iconst 0, 1) := by decide +kernel
theorem dX4_pass_26 : decode cX4_pass 26 = .ok (.iaload, 1) := by decide +kernel
theorem dX4_pass_27 : decode cX4_pass 27 = .ok (.iload_n 1, 1) := by decide +kernel
theorem dX4_pass_28 : decode cX4_pass 28 = .ok (.iadd, 1) := by decide +kernel
theorem dX4_pass_29 : decode cX4_pass 29 = .ok (.sipush 9999, 3) := by decide +kernel
theorem dX4_pass_32 : decode cX4_pass 32 = .ok (.if_icmp .le 9, 3) := by decide +kernel
theorem dX4_pass_35 : decode cX4_pass 35 = .ok (.aload_n 0, 1) := by decide +kernel
theorem dX4_pass_36 : decode cX4_pass 36 = .ok (.iconst 2, 1) := by decide +kernel
theorem dX4_pass_37 : decode cX4_pass 37 = .ok (.invokevirtual 102, 3) := by decide +kernel
theorem dX4_pass_40 : decode cX4_pass 40 = .ok (.ireturn, 1) := by decide +kernel
theorem dX4_pass_41 : decode cX4_pass 41 = .ok (.aload_n 0, 1) := by decide +kernel
theorem dX4_pass_42 : decode cX4_pass 42 = .ok (.invokevirtual 105, 3) := by decide +kernel
theorem dX4_pass_45 : decode cX4_pass 45 = .ok (.aload_n 0, 1) := by decide +kernel
theorem dX4_pass_46 : decode cX4_pass 46 = .ok (.iload_n 1, 1) := by decide +kernel
theorem dX4_pass_47 : decode cX4_pass 47 = .ok (.invokevirtual 116, 3) := by decide +kernel
theorem dX4_pass_50 : decode cX4_pass 50 = .ok (.ireturn, 1) := by decide +kernel
set_option maxRecDepth 20000 in
theorem ggX4_layFirst_X4_winnerOf : GoodIn wsX4_layFirst wsX4_winnerOf := goodIn_r _ [13, 14, 15, 16, 12, 17, 18, 19, 20, 21, 22, 23, 24, 25, 26, 27, 28, 29, 30, 31, 32, 33, 34, 35, 40, 41, 42, 43, 44, 45, 46, 47, 48, 49, 50, 51, 52, 53, 54, 55, 56, 57, 58, 59, 60, 61] (by decide +kernel) (by decide +kernel)
set_option maxRecDepth 20000 in
theorem gX4_layFirst_X4_winnerOf : GoodIn wsX4_layFirst (wsV RX4 78 RX4 yX4_winnerOf wsX4_winnerOf) := goodIn_app (goodIn_of _ (by decide +kernel)) ggX4_layFirst_X4_winnerOf
set_option maxRecDepth 20000 in
theorem ggX4_layFirst_X4_layNext : GoodIn wsX4_layFirst wsX4_layNext := goodIn_r _ [39, 5, 7, 8, 28, 6, 18, 19, 12, 20, 21, 22, 23, 24, 25, 26, 27, 29, 30, 31, 32, 33, 34, 35, 40, 41, 42, 43, 44, 45, 46, 47, 48, 49, 50, 51, 52, 53, 54, 55, 56, 57, 58, 59, 60, 61] (by decide +kernel) (by decide +kernel)
set_option maxRecDepth 20000 in
theorem gX4_layFirst_X4_layNext : GoodIn wsX4_layFirst (wsV RX4 81 RX4 yX4_layNext wsX4_layNext) := goodIn_app (goodIn_of _ (by decide +kernel)) ggX4_layFirst_X4_layNext
theorem dX4_layFirst_0 : decode cX4_layFirst 0 = .ok (.aload_n 0, 1) := by decide +kernel
theorem dX4_layFirst_1 : decode cX4_layFirst 1 = .ok (.iconst (-1), 1) := by decide +kernel
theorem dX4_layFirst_2 : decode cX4_layFirst 2 = .ok (.putfield 119, 3) := by decide +kernel
theorem dX4_layFirst_5 : decode cX4_layFirst 5 = .ok (.aload_n 0, 1) := by decide +kernel
theorem dX4_layFirst_6 : decode cX4_layFirst 6 = .ok (.iconst 0, 1) := by decide +kernel
theorem dX4_layFirst_7 : decode cX4_layFirst 7 = .ok (.putfield 122, 3) := by decide +kernel
theorem dX4_layFirst_10 : decode cX4_layFirst 10 = .ok (.aload_n 0, 1) := by decide +kernel
theorem dX4_layFirst_11 : decode cX4_layFirst 11 = .ok (.iconst 0, 1) := by decide +kernel
theorem dX4_layFirst_12 : decode cX4_layFirst 12 = .ok (.putfield 125, 3) := by decide +kernel
theorem dX4_layFirst_15 : decode cX4_layFirst 15 = .ok (.aload_n 0, 1) := by decide +kernel
theorem dX4_layFirst_16 : decode cX4_layFirst 16 = .ok (.iconst 0, 1) := by decide +kernel
theorem dX4_layFirst_17 : decode cX4_layFirst 17 = .ok (.putfield 128, 3) := by decide +kernel
theorem dX4_layFirst_20 : decode cX4_layFirst 20 = .ok (.iconst 1, 1) := by decide +kernel
theorem dX4_layFirst_21 : decode cX4_layFirst 21 = .ok (.istore_n 1, 1) := by decide +kernel
theorem dX4_layFirst_22 : decode cX4_layFirst 22 = .ok (.iload_n 1, 1) := by decide +kernel
theorem dX4_layFirst_23 : decode cX4_layFirst 23 = .ok (.bipush 15, 2) := by decide +kernel
theorem dX4_layFirst_25 : decode cX4_layFirst 25 = .ok (.if_icmp .gt 158, 3) := by decide +kernel
theorem dX4_layFirst_28 : decode cX4_layFirst 28 = .ok (.aload_n 0, 1) := by decide +kernel
theorem dX4_layFirst_29 : decode cX4_layFirst 29 = .ok (.iload_n 1, 1) := by decide +kernel
theorem dX4_layFirst_30 : decode cX4_layFirst 30 = .ok (.aload_n 0, 1) := by decide +kernel
theorem dX4_layFirst_31 : decode cX4_layFirst 31 = .ok (.iload_n 1, 1) := by decide +kernel
theorem dX4_layFirst_32 : decode cX4_layFirst 32 = .ok (.invokevirtual 78, 3) := by decide +kernel
theorem dX4_layFirst_35 : decode cX4_layFirst 35 = .ok (.invokevirtual 81, 3) := by decide +kernel
theorem dX4_layFirst_38 : decode cX4_layFirst 38 = .ok (.aload_n 0, 1) := by decide +kernel
theorem dX4_layFirst_39 : decode cX4_layFirst 39 = .ok (.getfield 67, 3) := by decide +kernel
theorem dX4_layFirst_42 : decode cX4_layFirst 42 = .ok (.iconst (-1), 1) := by decide +kernel
theorem dX4_layFirst_43 : decode cX4_layFirst 43 = .ok (.if_icmp .eq 134, 3) := by decide +kernel
theorem dX4_layFirst_46 : decode cX4_layFirst 46 = .ok (.aload_n 0, 1) := by decide +kernel
theorem dX4_layFirst_47 : decode cX4_layFirst 47 = .ok (.getfield 119, 3) := by decide +kernel
theorem dX4_layFirst_50 : decode cX4_layFirst 50 = .ok (.iconst (-1), 1) := by decide +kernel
theorem dX4_layFirst_51 : decode cX4_layFirst 51 = .ok (.if_icmp .ne 9, 3) := by decide +kernel
theorem dX4_layFirst_54 : decode cX4_layFirst 54 = .ok (.ldc2_w 76, 3) := by decide +kernel
theorem dX4_layFirst_57 : decode cX4_layFirst 57 = .ok (.goto 26, 3) := by decide +kernel
theorem dX4_layFirst_60 : decode cX4_layFirst 60 = .ok (.aload_n 0, 1) := by decide +kernel
theorem dX4_layFirst_61 : decode cX4_layFirst 61 = .ok (.getfield 70, 3) := by decide +kernel
theorem dX4_layFirst_64 : decode cX4_layFirst 64 = .ok (.i2l, 1) := by decide +kernel
theorem dX4_layFirst_65 : decode cX4_layFirst 65 = .ok (.aload_n 0, 1) := by decide +kernel
theorem dX4_layFirst_66 : decode cX4_layFirst 66 = .ok (.getfield 125, 3) := by decide +kernel
theorem dX4_layFirst_69 : decode cX4_layFirst 69 = .ok (.i2l, 1) := by decide +kernel
theorem dX4_layFirst_70 : decode cX4_layFirst 70 = .ok (.lmul, 1) := by decide +kernel
theorem dX4_layFirst_71 : decode cX4_layFirst 71 = .ok (.aload_n 0, 1) := by decide +kernel
theorem dX4_layFirst_72 : decode cX4_layFirst 72 = .ok (.getfield 122, 3) := by decide +kernel
theorem dX4_layFirst_75 : decode cX4_layFirst 75 = .ok (.i2l, 1) := by decide +kernel
theorem dX4_layFirst_76 : decode cX4_layFirst 76 = .ok (.aload_n 0, 1) := by decide +kernel
theorem dX4_layFirst_77 : decode cX4_layFirst 77 = .ok (.getfield 73, 3) := by decide +kernel
theorem dX4_layFirst_80 : decode cX4_layFirst 80 = .ok (.i2l, 1) := by decide +kernel
theorem dX4_layFirst_81 : decode cX4_layFirst 81 = .ok (.lmul, 1) := by decide +kernel
theorem dX4_layFirst_82 : decode cX4_layFirst 82 = .ok (.lsub, 1) := by decide +kernel
theorem dX4_layFirst_83 : decode cX4_layFirst 83 = .ok (.lstore_n 2, 1) := by decide +kernel
theorem dX4_layFirst_84 : decode cX4_layFirst 84 = .ok (.aload_n 0, 1) := by decide +kernel
theorem dX4_layFirst_85 : decode cX4_layFirst 85 = .ok (.lload_n 2, 1) := by decide +kernel
theorem dX4_layFirst_86 : decode cX4_layFirst 86 = .ok (.lconst 0, 1) := by decide +kernel
theorem dX4_layFirst_87 : decode cX4_layFirst 87 = .ok (.lcmp, 1) := by decide +kernel
theorem dX4_layFirst_88 : decode cX4_layFirst 88 = .ok (.ifCond .ge 7, 3) := by decide +kernel
theorem dX4_layFirst_91 : decode cX4_layFirst 91 = .ok (.iconst 1, 1) := by decide +kernel
theorem dX4_layFirst_92 : decode cX4_layFirst 92 = .ok (.goto 22, 3) := by decide +kernel
theorem dX4_layFirst_95 : decode cX4_layFirst 95 = .ok (.lload_n 2, 1) := by decide +kernel
theorem dX4_layFirst_96 : decode cX4_layFirst 96 = .ok (.lconst 0, 1) := by decide +kernel
theorem dX4_layFirst_97 : decode cX4_layFirst 97 = .ok (.lcmp, 1) := by decide +kernel
theorem dX4_layFirst_98 : decode cX4_layFirst 98 = .ok (.ifCond .ne 12, 3) := by decide +kernel
theorem dX4_layFirst_101 : decode cX4_layFirst 101 = .ok (.aload_n 0, 1) := by decide +kernel
theorem dX4_layFirst_102 : decode cX4_layFirst 102 = .ok (.getfield 128, 3) := by decide +kernel
theorem dX4_layFirst_105 : decode cX4_layFirst 105 = .ok (.iconst 1, 1) := by decide +kernel
theorem dX4_layFirst_106 : decode cX4_layFirst 106 = .ok (.iadd, 1) := by decide +kernel
theorem dX4_layFirst_107 : decode cX4_layFirst 107 = .ok (.goto 7, 3) := by decide +kernel
theorem dX4_layFirst_110 : decode cX4_layFirst 110 = .ok (.aload_n 0, 1) := by decide +kernel
theorem dX4_layFirst_111 : decode cX4_layFirst 111 = .ok (.getfield 128, 3) := by decide +kernel
theorem dX4_layFirst_114 : decode cX4_layFirst 114 = .ok (.putfield 128, 3) := by decide +kernel
theorem dX4_layFirst_117 : decode cX4_layFirst 117 = .ok (.aload_n 0, 1) := by decide +kernel
theorem dX4_layFirst_118 : decode cX4_layFirst 118 = .ok (.lload_n 2, 1) := by decide +kernel
theorem dX4_layFirst_119 : decode cX4_layFirst 119 = .ok (.lconst 0, 1) := by decide +kernel
theorem dX4_layFirst_120 : decode cX4_layFirst 120 = .ok (.lcmp, 1) := by decide +kernel
theorem dX4_layFirst_121 : decode cX4_layFirst 121 = .ok (.ifCond .ge 7, 3) := by decide +kernel
theorem dX4_layFirst_124 : decode cX4_layFirst 124 = .ok (.iload_n 1, 1) := by decide +kernel
theorem dX4_layFirst_125 : decode cX4_layFirst 125 = .ok (.goto 7, 3) := by decide +kernel
theorem dX4_layFirst_128 : decode cX4_layFirst 128 = .ok (.aload_n 0, 1) := by decide +kernel
theorem dX4_layFirst_129 : decode cX4_layFirst 129 = .ok (.getfield 119, 3) := by decide +kernel
theorem dX4_layFirst_132 : decode cX4_layFirst 132 = .ok (.putfield 119, 3) := by decide +kernel
theorem dX4_layFirst_135 : decode cX4_layFirst 135 = .ok (.aload_n 0, 1) := by decide +kernel
theorem dX4_layFirst_136 : decode cX4_layFirst 136 = .ok (.lload_n 2, 1) := by decide +kernel
theorem dX4_layFirst_137 : decode cX4_layFirst 137 = .ok (.lconst 0, 1) := by decide +kernel
theorem dX4_layFirst_138 : decode cX4_layFirst 138 = .ok (.lcmp, 1) := by decide +kernel
theorem dX4_layFirst_139 : decode cX4_layFirst 139 = .ok (.ifCond .ge 10, 3) := by decide +kernel
theorem dX4_layFirst_142 : decode cX4_layFirst 142 = .ok (.aload_n 0, 1) := by decide +kernel
theorem dX4_layFirst_143 : decode cX4_layFirst 143 = .ok (.getfield 70, 3) := by decide +kernel
theorem dX4_layFirst_146 : decode cX4_layFirst 146 = .ok (.goto 7, 3) := by decide +kernel
theorem dX4_layFirst_149 : decode cX4_layFirst 149 = .ok (.aload_n 0, 1) := by decide +kernel
theorem dX4_layFirst_150 : decode cX4_layFirst 150 = .ok (.getfield 122, 3) := by decide +kernel
theorem dX4_layFirst_153 : decode cX4_layFirst 153 = .ok (.putfield 122, 3) := by decide +kernel
theorem dX4_layFirst_156 : decode cX4_layFirst 156 = .ok (.aload_n 0, 1) := by decide +kernel
theorem dX4_layFirst_157 : decode cX4_layFirst 157 = .ok (.lload_n 2, 1) := by decide +kernel
theorem dX4_layFirst_158 : decode cX4_layFirst 158 = .ok (.lconst 0, 1) := by decide +kernel
theorem dX4_layFirst_159 : decode cX4_layFirst 159 = .ok (.lcmp, 1) := by decide +kernel
theorem dX4_layFirst_160 : decode cX4_layFirst 160 = .ok (.ifCond .ge 10, 3) := by decide +kernel
theorem dX4_layFirst_163 : decode cX4_layFirst 163 = .ok (.aload_n 0, 1) := by decide +kernel
theorem dX4_layFirst_164 : decode cX4_layFirst 164 = .ok (.getfield 73, 3) := by decide +kernel
theorem dX4_layFirst_167 : decode cX4_layFirst 167 = .ok (.goto 7, 3) := by decide +kernel
theorem dX4_layFirst_170 : decode cX4_layFirst 170 = .ok (.aload_n 0, 1) := by decide +kernel
theorem dX4_layFirst_171 : decode cX4_layFirst 171 = .ok (.getfield 125, 3) := by decide +kernel
theorem dX4_layFirst_174 : decode cX4_layFirst 174 = .ok (.putfield 125, 3) := by decide +kernel
theorem dX4_layFirst_177 : decode cX4_layFirst 177 = .ok (.iinc 1 1, 3) := by decide +kernel
theorem dX4_layFirst_180 : decode cX4_layFirst 180 = .ok (.goto (-158), 3) := by decide +kernel
theorem dX4_layFirst_183 : decode cX4_layFirst 183 = .ok (.return_, 1) := by decide +kernel
set_option maxRecDepth 20000 in
theorem ggX4_passToTurn_X4_layFirst : GoodIn wsX4_passToTurn wsX4_layFirst := goodIn_r _ [10, 2, 4, 5, 11, 12, 13, 14, 15, 16, 17, 18, 9, 19, 20, 21, 22, 23, 24, 25, 26, 27, 28, 29, 30, 31, 32, 33, 3, 34, 35, 36, 37, 38, 39, 40, 41, 42, 43, 44, 63, 64, 65, 66, 67, 68, 69, 70, 71, 72, 73, 74, 75, 76, 77, 78, 79, 80, 81, 82, 83, 84] (by decide +kernel) (by decide +kernel)
set_option maxRecDepth 20000 in
theorem gX4_passToTurn_X4_layFirst : GoodIn wsX4_passToTurn (wsV RX4 131 RX4 yX4_layFirst wsX4_layFirst) := goodIn_app (goodIn_of _ (by decide +kernel)) ggX4_passToTurn_X4_layFirst
set_option maxRecDepth 20000 in
theorem ggX4_passToTurn_X4_fails : GoodIn wsX4_passToTurn wsX4_fails := goodIn_r _ [48, 1, 63, 64, 65, 66, 67, 68, 69, 70, 71, 72, 73, 74, 75, 76, 77, 78, 79, 80, 81, 82, 83, 84] (by decide +kernel) (by decide +kernel)
set_option maxRecDepth 20000 in
theorem gX4_passToTurn_X4_fails : GoodIn wsX4_passToTurn (wsV RX4 102 RX4 yX4_fails wsX4_fails) := goodIn_app (goodIn_of _ (by decide +kernel)) ggX4_passToTurn_X4_fails
set_option maxRecDepth 20000 in
theorem ggX4_passToTurn_X4_save : GoodIn wsX4_passToTurn wsX4_save := goodIn_r _ [52, 53, 54, 3, 63, 64, 65, 66, 67, 68, 69, 70, 71, 72, 73, 74, 75, 76, 77, 78, 79, 80, 81, 82, 83, 84] (by decide +kernel) (by decide +kernel)
set_option maxRecDepth 20000 in
theorem gX4_passToTurn_X4_save : GoodIn wsX4_passToTurn (wsV RX4 105 RX4 yX4_save wsX4_save) := goodIn_app (goodIn_of _ (by decide +kernel)) ggX4_passToTurn_X4_save
set_option maxRecDepth 20000 in
theorem ggX4_passToTurn_X4_passNow : GoodIn wsX4_passToTurn wsX4_passNow := goodIn_r _ [58, 3, 59, 60, 61, 9, 62, 12, 14, 15, 16, 17, 18, 19, 20, 21, 22, 23, 24, 25, 26, 27, 28, 29, 30, 31, 32, 33, 34, 35, 36, 37, 38, 39, 40, 41, 42, 43, 44, 13, 63, 64, 65, 66, 67, 68, 69, 70, 71, 72, 73, 74, 75, 76, 77, 78, 79, 80, 81, 82, 83, 84] (by decide +kernel) (by decide +kernel)
set_option maxRecDepth 20000 in
theorem gX4_passToTurn_X4_passNow : GoodIn wsX4_passToTurn (wsV RX4 116 RX4 yX4_passNow wsX4_passNow) := goodIn_app (goodIn_of _ (by decide +kernel)) ggX4_passToTurn_X4_passNow
theorem dX4_passToTurn_0 : decode cX4_passToTurn 0 = .ok (.aload_n 0, 1) := by decide +kernel
theorem dX4_passToTurn_1 : decode cX4_passToTurn 1 = .ok (.iconst 0, 1) := by decide +kernel
theorem dX4_passToTurn_2 : decode cX4_passToTurn 2 = .ok (.putfield 34, 3) := by decide +kernel
theorem dX4_passToTurn_5 : decode cX4_passToTurn 5 = .ok (.aload_n 0, 1) := by decide +kernel
theorem dX4_passToTurn_6 : decode cX4_passToTurn 6 = .ok (.invokevirtual 131, 3) := by decide +kernel
theorem dX4_passToTurn_9 : decode cX4_passToTurn 9 = .ok (.aload_n 0, 1) := by decide +kernel
theorem dX4_passToTurn_10 : decode cX4_passToTurn 10 = .ok (.getfield 119, 3) := by decide +kernel
theorem dX4_passToTurn_13 : decode cX4_passToTurn 13 = .ok (.iconst (-1), 1) := by decide +kernel
theorem dX4_passToTurn_14 : decode cX4_passToTurn 14 = .ok (.if_icmp .eq 32, 3) := by decide +kernel
theorem dX4_passToTurn_17 : decode cX4_passToTurn 17 = .ok (.aload_n 0, 1) := by decide +kernel
theorem dX4_passToTurn_18 : decode cX4_passToTurn 18 = .ok (.getfield 7, 3) := by decide +kernel
theorem dX4_passToTurn_21 : decode cX4_passToTurn 21 = .ok (.iconst 0, 1) := by decide +kernel
theorem dX4_passToTurn_22 : decode cX4_passToTurn 22 = .ok (.iaload, 1) := by decide +kernel
theorem dX4_passToTurn_23 : decode cX4_passToTurn 23 = .ok (.aload_n 0, 1) := by decide +kernel
theorem dX4_passToTurn_24 : decode cX4_passToTurn 24 = .ok (.getfield 122, 3) := by decide +kernel
theorem dX4_passToTurn_27 : decode cX4_passToTurn 27 = .ok (.aload_n 0, 1) := by decide +kernel
theorem dX4_passToTurn_28 : decode cX4_passToTurn 28 = .ok (.getfield 125, 3) := by decide +kernel
theorem dX4_passToTurn_31 : decode cX4_passToTurn 31 = .ok (.iadd, 1) := by decide +kernel
theorem dX4_passToTurn_32 : decode cX4_passToTurn 32 = .ok (.iconst 1, 1) := by decide +kernel
theorem dX4_passToTurn_33 : decode cX4_passToTurn 33 = .ok (.isub, 1) := by decide +kernel
theorem dX4_passToTurn_34 : decode cX4_passToTurn 34 = .ok (.aload_n 0, 1) := by decide +kernel
theorem dX4_passToTurn_35 : decode cX4_passToTurn 35 = .ok (.getfield 125, 3) := by decide +kernel
theorem dX4_passToTurn_38 : decode cX4_passToTurn 38 = .ok (.idiv, 1) := by decide +kernel
theorem dX4_passToTurn_39 : decode cX4_passToTurn 39 = .ok (.iadd, 1) := by decide +kernel
theorem dX4_passToTurn_40 : decode cX4_passToTurn 40 = .ok (.sipush 9999, 3) := by decide +kernel
theorem dX4_passToTurn_43 : decode cX4_passToTurn 43 = .ok (.if_icmp .le 9, 3) := by decide +kernel
theorem dX4_passToTurn_46 : decode cX4_passToTurn 46 = .ok (.aload_n 0, 1) := by decide +kernel
theorem dX4_passToTurn_47 : decode cX4_passToTurn 47 = .ok (.iconst 1, 1) := by decide +kernel
theorem dX4_passToTurn_48 : decode cX4_passToTurn 48 = .ok (.invokevirtual 102, 3) := by decide +kernel
theorem dX4_passToTurn_51 : decode cX4_passToTurn 51 = .ok (.ireturn, 1) := by decide +kernel
theorem dX4_passToTurn_52 : decode cX4_passToTurn 52 = .ok (.aload_n 0, 1) := by decide +kernel
theorem dX4_passToTurn_53 : decode cX4_passToTurn 53 = .ok (.invokevirtual 105, 3) := by decide +kernel
theorem dX4_passToTurn_56 : decode cX4_passToTurn 56 = .ok (.aload_n 0, 1) := by decide +kernel
theorem dX4_passToTurn_57 : decode cX4_passToTurn 57 = .ok (.aload_n 0, 1) := by decide +kernel
theorem dX4_passToTurn_58 : decode cX4_passToTurn 58 = .ok (.getfield 122, 3) := by decide +kernel
theorem dX4_passToTurn_61 : decode cX4_passToTurn 61 = .ok (.aload_n 0, 1) := by decide +kernel
theorem dX4_passToTurn_62 : decode cX4_passToTurn 62 = .ok (.getfield 125, 3) := by decide +kernel
theorem dX4_passToTurn_65 : decode cX4_passToTurn 65 = .ok (.iadd, 1) := by decide +kernel
theorem dX4_passToTurn_66 : decode cX4_passToTurn 66 = .ok (.iconst 1, 1) := by decide +kernel
theorem dX4_passToTurn_67 : decode cX4_passToTurn 67 = .ok (.isub, 1) := by decide +kernel
theorem dX4_passToTurn_68 : decode cX4_passToTurn 68 = .ok (.aload_n 0, 1) := by decide +kernel
theorem dX4_passToTurn_69 : decode cX4_passToTurn 69 = .ok (.getfield 125, 3) := by decide +kernel
theorem dX4_passToTurn_72 : decode cX4_passToTurn 72 = .ok (.idiv, 1) := by decide +kernel
theorem dX4_passToTurn_73 : decode cX4_passToTurn 73 = .ok (.invokevirtual 116, 3) := by decide +kernel
theorem dX4_passToTurn_76 : decode cX4_passToTurn 76 = .ok (.ireturn, 1) := by decide +kernel
set_option maxRecDepth 20000 in
theorem ggX4_set_X4_in : GoodIn wsX4_set wsX4_in := goodIn_r _ [6] (by decide +kernel) (by decide +kernel)
set_option maxRecDepth 20000 in
theorem gX4_set_X4_in : GoodIn wsX4_set (va_wsS RX4 45 yX4_in wsX4_in) := goodIn_app (goodIn_of _ (by decide +kernel)) ggX4_set_X4_in
set_option maxRecDepth 20000 in
theorem ggX4_set_X4_fails : GoodIn wsX4_set wsX4_fails := goodIn_r _ [10, 1, 17, 18, 19, 20, 21, 22, 23, 24, 25, 26, 27, 28, 29, 30, 31, 32, 33, 34, 35, 36, 37, 38] (by decide +kernel) (by decide +kernel)
set_option maxRecDepth 20000 in
theorem gX4_set_X4_fails : GoodIn wsX4_set (wsV RX4 102 RX4 yX4_fails wsX4_fails) := goodIn_app (goodIn_of _ (by decide +kernel)) ggX4_set_X4_fails
set_option maxRecDepth 20000 in
theorem ggX4_set_X4_save : GoodIn wsX4_set wsX4_save := goodIn_r _ [14, 15, 16, 2, 17, 18, 19, 20, 21, 22, 23, 24, 25, 26, 27, 28, 29, 30, 31, 32, 33, 34, 35, 36, 37, 38] (by decide +kernel) (by decide +kernel)
set_option maxRecDepth 20000 in
theorem gX4_set_X4_save : GoodIn wsX4_set (wsV RX4 105 RX4 yX4_save wsX4_save) := goodIn_app (goodIn_of _ (by decide +kernel)) ggX4_set_X4_save
theorem dX4_set_0 : decode cX4_set 0 = .ok (.aload_n 0, 1) := by decide +kernel
theorem dX4_set_1 : decode cX4_set 1 = .ok (.iconst 0, 1) := by decide +kernel
theorem dX4_set_2 : decode cX4_set 2 = .ok (.putfield 34, 3) := by decide +kernel
theorem dX4_set_5 : decode cX4_set 5 = .ok (.iload_n 1, 1) := by decide +kernel
theorem dX4_set_6 : decode cX4_set 6 = .ok (.iconst 0, 1) := by decide +kernel
theorem dX4_set_7 : decode cX4_set 7 = .ok (.iconst 1, 1) := by decide +kernel
theorem dX4_set_8 : decode cX4_set 8 = .ok (.invokestatic 45, 3) := by decide +kernel
theorem dX4_set_11 : decode cX4_set 11 = .ok (.ifCond .ne 9, 3) := by decide +kernel
theorem dX4_set_14 : decode cX4_set 14 = .ok (.aload_n 0, 1) := by decide +kernel
theorem dX4_set_15 : decode cX4_set 15 = .ok (.iconst 1, 1) := by decide +kernel
theorem dX4_set_16 : decode cX4_set 16 = .ok (.invokevirtual 102, 3) := by decide +kernel
theorem dX4_set_19 : decode cX4_set 19 = .ok (.ireturn, 1) := by decide +kernel
theorem dX4_set_20 : decode cX4_set 20 = .ok (.iload_n 2, 1) := by decide +kernel
theorem dX4_set_21 : decode cX4_set 21 = .ok (.iload_n 1, 1) := by decide +kernel
theorem dX4_set_22 : decode cX4_set 22 = .ok (.iload_n 1, 1) := by decide +kernel
theorem dX4_set_23 : decode cX4_set 23 = .ok (.ifCond .ne 7, 3) := by decide +kernel
theorem dX4_set_26 : decode cX4_set 26 = .ok (.iconst 1, 1) := by decide +kernel
theorem dX4_set_27 : decode cX4_set 27 = .ok (.goto 6, 3) := by decide +kernel
theorem dX4_set_30 : decode cX4_set 30 = .ok (.sipush 999, 3) := by decide +kernel
theorem dX4_set_33 : decode cX4_set 33 = .ok (.invokestatic 45, 3) := by decide +kernel
theorem dX4_set_36 : decode cX4_set 36 = .ok (.ifCond .ne 9, 3) := by decide +kernel
theorem dX4_set_39 : decode cX4_set 39 = .ok (.aload_n 0, 1) := by decide +kernel
theorem dX4_set_40 : decode cX4_set 40 = .ok (.iconst 2, 1) := by decide +kernel
theorem dX4_set_41 : decode cX4_set 41 = .ok (.invokevirtual 102, 3) := by decide +kernel
theorem dX4_set_44 : decode cX4_set 44 = .ok (.ireturn, 1) := by decide +kernel
theorem dX4_set_45 : decode cX4_set 45 = .ok (.aload_n 0, 1) := by decide +kernel
theorem dX4_set_46 : decode cX4_set 46 = .ok (.invokevirtual 105, 3) := by decide +kernel
theorem dX4_set_49 : decode cX4_set 49 = .ok (.aload_n 0, 1) := by decide +kernel
theorem dX4_set_50 : decode cX4_set 50 = .ok (.getfield 7, 3) := by decide +kernel
theorem dX4_set_53 : decode cX4_set 53 = .ok (.iconst 1, 1) := by decide +kernel
theorem dX4_set_54 : decode cX4_set 54 = .ok (.iload_n 1, 1) := by decide +kernel
theorem dX4_set_55 : decode cX4_set 55 = .ok (.iadd, 1) := by decide +kernel
theorem dX4_set_56 : decode cX4_set 56 = .ok (.iaload, 1) := by decide +kernel
theorem dX4_set_57 : decode cX4_set 57 = .ok (.istore_n 3, 1) := by decide +kernel
theorem dX4_set_58 : decode cX4_set 58 = .ok (.aload_n 0, 1) := by decide +kernel
