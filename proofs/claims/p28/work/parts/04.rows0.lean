theorem dX0_init_0 : decode cX0_init 0 = .ok (.aload_n 0, 1) := by decide +kernel
theorem dX0_init_1 : decode cX0_init 1 = .ok (.invokespecial 3, 3) := by decide +kernel
theorem dX0_init_4 : decode cX0_init 4 = .ok (.aload_n 0, 1) := by decide +kernel
theorem dX0_init_5 : decode cX0_init 5 = .ok (.bipush 16, 2) := by decide +kernel
theorem dX0_init_7 : decode cX0_init 7 = .ok (.newarray .int, 2) := by decide +kernel
theorem dX0_init_9 : decode cX0_init 9 = .ok (.putfield 9, 3) := by decide +kernel
theorem dX0_init_12 : decode cX0_init 12 = .ok (.aload_n 0, 1) := by decide +kernel
theorem dX0_init_13 : decode cX0_init 13 = .ok (.bipush 16, 2) := by decide +kernel
theorem dX0_init_15 : decode cX0_init 15 = .ok (.newarray .int, 2) := by decide +kernel
theorem dX0_init_17 : decode cX0_init 17 = .ok (.putfield 15, 3) := by decide +kernel
theorem dX0_init_20 : decode cX0_init 20 = .ok (.aload_n 0, 1) := by decide +kernel
theorem dX0_init_21 : decode cX0_init 21 = .ok (.bipush 16, 2) := by decide +kernel
theorem dX0_init_23 : decode cX0_init 23 = .ok (.newarray .int, 2) := by decide +kernel
theorem dX0_init_25 : decode cX0_init 25 = .ok (.putfield 18, 3) := by decide +kernel
theorem dX0_init_28 : decode cX0_init 28 = .ok (.aload_n 0, 1) := by decide +kernel
theorem dX0_init_29 : decode cX0_init 29 = .ok (.iconst 0, 1) := by decide +kernel
theorem dX0_init_30 : decode cX0_init 30 = .ok (.putfield 21, 3) := by decide +kernel
theorem dX0_init_33 : decode cX0_init 33 = .ok (.aload_n 0, 1) := by decide +kernel
theorem dX0_init_34 : decode cX0_init 34 = .ok (.iload_n 1, 1) := by decide +kernel
theorem dX0_init_35 : decode cX0_init 35 = .ok (.putfield 25, 3) := by decide +kernel
theorem dX0_init_38 : decode cX0_init 38 = .ok (.aload_n 0, 1) := by decide +kernel
theorem dX0_init_39 : decode cX0_init 39 = .ok (.iload_n 1, 1) := by decide +kernel
theorem dX0_init_40 : decode cX0_init 40 = .ok (.iload_n 2, 1) := by decide +kernel
theorem dX0_init_41 : decode cX0_init 41 = .ok (.iadd, 1) := by decide +kernel
theorem dX0_init_42 : decode cX0_init 42 = .ok (.putfield 28, 3) := by decide +kernel
theorem dX0_init_45 : decode cX0_init 45 = .ok (.return_, 1) := by decide +kernel
set_option maxRecDepth 20000 in
theorem ggX0_follow_X1_foremost : GoodIn wsX0_follow wsX1_foremost := goodIn_r _ [8, 9, 10, 11, 7, 12, 13, 14, 15, 16, 17, 18, 19, 20, 21, 22, 23, 24, 25, 26, 27, 28, 29, 30, 31, 32, 61, 62, 63, 64, 65, 66, 67, 68] (by decide +kernel) (by decide +kernel)
set_option maxRecDepth 20000 in
theorem gX0_follow_X1_foremost : GoodIn wsX0_follow (wsV RX0 31 RX1 yX1_foremost wsX1_foremost) := goodIn_app (goodIn_of _ (by decide +kernel)) ggX0_follow_X1_foremost
set_option maxRecDepth 20000 in
theorem ggX0_follow_X0_addRow : GoodIn wsX0_follow wsX0_addRow := goodIn_r _ [37, 1, 38, 39, 40, 55, 56, 57, 58, 59, 60] (by decide +kernel) (by decide +kernel)
set_option maxRecDepth 20000 in
theorem gX0_follow_X0_addRow : GoodIn wsX0_follow (wsV RX0 37 RX0 yX0_addRow wsX0_addRow) := goodIn_app (goodIn_of _ (by decide +kernel)) ggX0_follow_X0_addRow
set_option maxRecDepth 20000 in
theorem ggX0_follow_X0_followTurn : GoodIn wsX0_follow wsX0_followTurn := goodIn_r _ [44, 2, 3, 45, 10, 11, 7, 12, 13, 46, 15, 16, 17, 18, 47, 48, 49, 50, 14, 23, 24, 25, 26, 27, 28, 29, 30, 31, 32, 51, 52, 53, 54, 33, 34, 35, 36, 37, 1, 38, 39, 40, 55, 56, 57, 58, 59, 60, 61, 62, 63, 64, 65, 66, 67, 68] (by decide +kernel) (by decide +kernel)
set_option maxRecDepth 20000 in
theorem gX0_follow_X0_followTurn : GoodIn wsX0_follow (wsV RX0 41 RX0 yX0_followTurn wsX0_followTurn) := goodIn_app (goodIn_of _ (by decide +kernel)) ggX0_follow_X0_followTurn
theorem dX0_follow_0 : decode cX0_follow 0 = .ok (.aload_n 0, 1) := by decide +kernel
theorem dX0_follow_1 : decode cX0_follow 1 = .ok (.iconst 0, 1) := by decide +kernel
theorem dX0_follow_2 : decode cX0_follow 2 = .ok (.putfield 21, 3) := by decide +kernel
theorem dX0_follow_5 : decode cX0_follow 5 = .ok (.aload_n 1, 1) := by decide +kernel
theorem dX0_follow_6 : decode cX0_follow 6 = .ok (.aload_n 0, 1) := by decide +kernel
theorem dX0_follow_7 : decode cX0_follow 7 = .ok (.getfield 25, 3) := by decide +kernel
theorem dX0_follow_10 : decode cX0_follow 10 = .ok (.aload_n 0, 1) := by decide +kernel
theorem dX0_follow_11 : decode cX0_follow 11 = .ok (.getfield 28, 3) := by decide +kernel
theorem dX0_follow_14 : decode cX0_follow 14 = .ok (.iconst (-1), 1) := by decide +kernel
theorem dX0_follow_15 : decode cX0_follow 15 = .ok (.iconst 0, 1) := by decide +kernel
theorem dX0_follow_16 : decode cX0_follow 16 = .ok (.invokevirtual 31, 3) := by decide +kernel
theorem dX0_follow_19 : decode cX0_follow 19 = .ok (.istore_n 2, 1) := by decide +kernel
theorem dX0_follow_20 : decode cX0_follow 20 = .ok (.iload_n 2, 1) := by decide +kernel
theorem dX0_follow_21 : decode cX0_follow 21 = .ok (.iconst (-1), 1) := by decide +kernel
theorem dX0_follow_22 : decode cX0_follow 22 = .ok (.if_icmp .ne 4, 3) := by decide +kernel
theorem dX0_follow_25 : decode cX0_follow 25 = .ok (.return_, 1) := by decide +kernel
theorem dX0_follow_26 : decode cX0_follow 26 = .ok (.aload_n 0, 1) := by decide +kernel
theorem dX0_follow_27 : decode cX0_follow 27 = .ok (.iload_n 2, 1) := by decide +kernel
theorem dX0_follow_28 : decode cX0_follow 28 = .ok (.iconst 0, 1) := by decide +kernel
theorem dX0_follow_29 : decode cX0_follow 29 = .ok (.iconst 1, 1) := by decide +kernel
theorem dX0_follow_30 : decode cX0_follow 30 = .ok (.invokevirtual 37, 3) := by decide +kernel
theorem dX0_follow_33 : decode cX0_follow 33 = .ok (.iload_n 2, 1) := by decide +kernel
theorem dX0_follow_34 : decode cX0_follow 34 = .ok (.istore_n 3, 1) := by decide +kernel
theorem dX0_follow_35 : decode cX0_follow 35 = .ok (.iconst 1, 1) := by decide +kernel
theorem dX0_follow_36 : decode cX0_follow 36 = .ok (.istore 4, 2) := by decide +kernel
theorem dX0_follow_38 : decode cX0_follow 38 = .ok (.iload 4, 2) := by decide +kernel
theorem dX0_follow_40 : decode cX0_follow 40 = .ok (.bipush 16, 2) := by decide +kernel
theorem dX0_follow_42 : decode cX0_follow 42 = .ok (.if_icmp .ge 21, 3) := by decide +kernel
theorem dX0_follow_45 : decode cX0_follow 45 = .ok (.iload_n 3, 1) := by decide +kernel
theorem dX0_follow_46 : decode cX0_follow 46 = .ok (.iconst (-1), 1) := by decide +kernel
theorem dX0_follow_47 : decode cX0_follow 47 = .ok (.if_icmp .eq 16, 3) := by decide +kernel
theorem dX0_follow_50 : decode cX0_follow 50 = .ok (.aload_n 0, 1) := by decide +kernel
theorem dX0_follow_51 : decode cX0_follow 51 = .ok (.aload_n 1, 1) := by decide +kernel
theorem dX0_follow_52 : decode cX0_follow 52 = .ok (.iload_n 3, 1) := by decide +kernel
theorem dX0_follow_53 : decode cX0_follow 53 = .ok (.invokevirtual 41, 3) := by decide +kernel
theorem dX0_follow_56 : decode cX0_follow 56 = .ok (.istore_n 3, 1) := by decide +kernel
theorem dX0_follow_57 : decode cX0_follow 57 = .ok (.iinc 4 1, 3) := by decide +kernel
theorem dX0_follow_60 : decode cX0_follow 60 = .ok (.goto (-22), 3) := by decide +kernel
theorem dX0_follow_63 : decode cX0_follow 63 = .ok (.return_, 1) := by decide +kernel
set_option maxRecDepth 20000 in
theorem ggX0_followTurn_X1_has : GoodIn wsX0_followTurn wsX1_has := goodIn_r _ [7, 8, 48, 49, 50, 51, 52, 53, 54, 55] (by decide +kernel) (by decide +kernel)
set_option maxRecDepth 20000 in
theorem gX0_followTurn_X1_has : GoodIn wsX0_followTurn (wsV RX0 45 RX1 yX1_has wsX1_has) := goodIn_app (goodIn_of _ (by decide +kernel)) ggX0_followTurn_X1_has
set_option maxRecDepth 20000 in
theorem ggX0_followTurn_X1_speedOf : GoodIn wsX0_followTurn wsX1_speedOf := goodIn_r _ [12, 13, 48, 49, 50, 51, 52, 53, 54, 55] (by decide +kernel) (by decide +kernel)
set_option maxRecDepth 20000 in
theorem gX0_followTurn_X1_speedOf : GoodIn wsX0_followTurn (wsV RX0 49 RX1 yX1_speedOf wsX1_speedOf) := goodIn_app (goodIn_of _ (by decide +kernel)) ggX0_followTurn_X1_speedOf
set_option maxRecDepth 20000 in
theorem ggX0_followTurn_X1_isSoonerAhead : GoodIn wsX0_followTurn wsX1_isSoonerAhead := goodIn_r _ [17, 18, 10, 11, 6, 12, 13, 19, 20, 21, 22, 23, 24, 25, 26, 27, 28, 48, 49, 50, 51, 52, 53, 54, 55] (by decide +kernel) (by decide +kernel)
set_option maxRecDepth 20000 in
theorem gX0_followTurn_X1_isSoonerAhead : GoodIn wsX0_followTurn (wsV RX0 53 RX1 yX1_isSoonerAhead wsX1_isSoonerAhead) := goodIn_app (goodIn_of _ (by decide +kernel)) ggX0_followTurn_X1_isSoonerAhead
set_option maxRecDepth 20000 in
theorem ggX0_followTurn_X1_valueOf : GoodIn wsX0_followTurn wsX1_valueOf := goodIn_r _ [22, 23, 48, 49, 50, 51, 52, 53, 54, 55] (by decide +kernel) (by decide +kernel)
set_option maxRecDepth 20000 in
theorem gX0_followTurn_X1_valueOf : GoodIn wsX0_followTurn (wsV RX0 57 RX1 yX1_valueOf wsX1_valueOf) := goodIn_app (goodIn_of _ (by decide +kernel)) ggX0_followTurn_X1_valueOf
set_option maxRecDepth 20000 in
theorem ggX0_followTurn_X3_reduced : GoodIn wsX0_followTurn wsX3_reduced := goodIn_r _ [32] (by decide +kernel) (by decide +kernel)
set_option maxRecDepth 20000 in
theorem gX0_followTurn_X3_reduced_n60 : GoodIn wsX0_followTurn (wsX3_reduced) := ggX0_followTurn_X3_reduced
set_option maxRecDepth 20000 in
theorem ggX0_followTurn_X0_addRow : GoodIn wsX0_followTurn wsX0_addRow := goodIn_r _ [37, 38, 39, 40, 41, 42, 43, 44, 45, 46, 47] (by decide +kernel) (by decide +kernel)
set_option maxRecDepth 20000 in
theorem gX0_followTurn_X0_addRow : GoodIn wsX0_followTurn (wsV RX0 37 RX0 yX0_addRow wsX0_addRow) := goodIn_app (goodIn_of _ (by decide +kernel)) ggX0_followTurn_X0_addRow
theorem dX0_followTurn_0 : decode cX0_followTurn 0 = .ok (.iconst (-1), 1) := by decide +kernel
theorem dX0_followTurn_1 : decode cX0_followTurn 1 = .ok (.istore_n 3, 1) := by decide +kernel
theorem dX0_followTurn_2 : decode cX0_followTurn 2 = .ok (.aload_n 0, 1) := by decide +kernel
theorem dX0_followTurn_3 : decode cX0_followTurn 3 = .ok (.getfield 25, 3) := by decide +kernel
theorem dX0_followTurn_6 : decode cX0_followTurn 6 = .ok (.istore 4, 2) := by decide +kernel
theorem dX0_followTurn_8 : decode cX0_followTurn 8 = .ok (.iload 4, 2) := by decide +kernel
theorem dX0_followTurn_10 : decode cX0_followTurn 10 = .ok (.aload_n 0, 1) := by decide +kernel
theorem dX0_followTurn_11 : decode cX0_followTurn 11 = .ok (.getfield 28, 3) := by decide +kernel
theorem dX0_followTurn_14 : decode cX0_followTurn 14 = .ok (.if_icmp .ge 51, 3) := by decide +kernel
theorem dX0_followTurn_17 : decode cX0_followTurn 17 = .ok (.aload_n 1, 1) := by decide +kernel
theorem dX0_followTurn_18 : decode cX0_followTurn 18 = .ok (.iload 4, 2) := by decide +kernel
theorem dX0_followTurn_20 : decode cX0_followTurn 20 = .ok (.invokevirtual 45, 3) := by decide +kernel
theorem dX0_followTurn_23 : decode cX0_followTurn 23 = .ok (.ifCond .eq 36, 3) := by decide +kernel
theorem dX0_followTurn_26 : decode cX0_followTurn 26 = .ok (.aload_n 1, 1) := by decide +kernel
theorem dX0_followTurn_27 : decode cX0_followTurn 27 = .ok (.iload 4, 2) := by decide +kernel
theorem dX0_followTurn_29 : decode cX0_followTurn 29 = .ok (.invokevirtual 49, 3) := by decide +kernel
theorem dX0_followTurn_32 : decode cX0_followTurn 32 = .ok (.aload_n 1, 1) := by decide +kernel
theorem dX0_followTurn_33 : decode cX0_followTurn 33 = .ok (.iload_n 2, 1) := by decide +kernel
theorem dX0_followTurn_34 : decode cX0_followTurn 34 = .ok (.invokevirtual 49, 3) := by decide +kernel
theorem dX0_followTurn_37 : decode cX0_followTurn 37 = .ok (.if_icmp .le 22, 3) := by decide +kernel
theorem dX0_followTurn_40 : decode cX0_followTurn 40 = .ok (.iload_n 3, 1) := by decide +kernel
theorem dX0_followTurn_41 : decode cX0_followTurn 41 = .ok (.iconst (-1), 1) := by decide +kernel
theorem dX0_followTurn_42 : decode cX0_followTurn 42 = .ok (.if_icmp .eq 14, 3) := by decide +kernel
theorem dX0_followTurn_45 : decode cX0_followTurn 45 = .ok (.aload_n 1, 1) := by decide +kernel
theorem dX0_followTurn_46 : decode cX0_followTurn 46 = .ok (.iload 4, 2) := by decide +kernel
theorem dX0_followTurn_48 : decode cX0_followTurn 48 = .ok (.iload_n 3, 1) := by decide +kernel
theorem dX0_followTurn_49 : decode cX0_followTurn 49 = .ok (.iload_n 2, 1) := by decide +kernel
theorem dX0_followTurn_50 : decode cX0_followTurn 50 = .ok (.invokevirtual 53, 3) := by decide +kernel
theorem dX0_followTurn_53 : decode cX0_followTurn 53 = .ok (.ifCond .eq 6, 3) := by decide +kernel
theorem dX0_followTurn_56 : decode cX0_followTurn 56 = .ok (.iload 4, 2) := by decide +kernel
theorem dX0_followTurn_58 : decode cX0_followTurn 58 = .ok (.istore_n 3, 1) := by decide +kernel
theorem dX0_followTurn_59 : decode cX0_followTurn 59 = .ok (.iinc 4 1, 3) := by decide +kernel
theorem dX0_followTurn_62 : decode cX0_followTurn 62 = .ok (.goto (-54), 3) := by decide +kernel
theorem dX0_followTurn_65 : decode cX0_followTurn 65 = .ok (.iload_n 3, 1) := by decide +kernel
theorem dX0_followTurn_66 : decode cX0_followTurn 66 = .ok (.iconst (-1), 1) := by decide +kernel
theorem dX0_followTurn_67 : decode cX0_followTurn 67 = .ok (.if_icmp .eq 48, 3) := by decide +kernel
theorem dX0_followTurn_70 : decode cX0_followTurn 70 = .ok (.aload_n 1, 1) := by decide +kernel
theorem dX0_followTurn_71 : decode cX0_followTurn 71 = .ok (.iload_n 2, 1) := by decide +kernel
theorem dX0_followTurn_72 : decode cX0_followTurn 72 = .ok (.invokevirtual 57, 3) := by decide +kernel
theorem dX0_followTurn_75 : decode cX0_followTurn 75 = .ok (.aload_n 1, 1) := by decide +kernel
theorem dX0_followTurn_76 : decode cX0_followTurn 76 = .ok (.iload_n 3, 1) := by decide +kernel
theorem dX0_followTurn_77 : decode cX0_followTurn 77 = .ok (.invokevirtual 57, 3) := by decide +kernel
theorem dX0_followTurn_80 : decode cX0_followTurn 80 = .ok (.isub, 1) := by decide +kernel
theorem dX0_followTurn_81 : decode cX0_followTurn 81 = .ok (.istore 4, 2) := by decide +kernel
theorem dX0_followTurn_83 : decode cX0_followTurn 83 = .ok (.aload_n 1, 1) := by decide +kernel
theorem dX0_followTurn_84 : decode cX0_followTurn 84 = .ok (.iload_n 3, 1) := by decide +kernel
theorem dX0_followTurn_85 : decode cX0_followTurn 85 = .ok (.invokevirtual 49, 3) := by decide +kernel
theorem dX0_followTurn_88 : decode cX0_followTurn 88 = .ok (.aload_n 1, 1) := by decide +kernel
theorem dX0_followTurn_89 : decode cX0_followTurn 89 = .ok (.iload_n 2, 1) := by decide +kernel
theorem dX0_followTurn_90 : decode cX0_followTurn 90 = .ok (.invokevirtual 49, 3) := by decide +kernel
theorem dX0_followTurn_93 : decode cX0_followTurn 93 = .ok (.isub, 1) := by decide +kernel
theorem dX0_followTurn_94 : decode cX0_followTurn 94 = .ok (.istore 5, 2) := by decide +kernel
theorem dX0_followTurn_96 : decode cX0_followTurn 96 = .ok (.aload_n 0, 1) := by decide +kernel
theorem dX0_followTurn_97 : decode cX0_followTurn 97 = .ok (.iload_n 3, 1) := by decide +kernel
theorem dX0_followTurn_98 : decode cX0_followTurn 98 = .ok (.iload 4, 2) := by decide +kernel
theorem dX0_followTurn_100 : decode cX0_followTurn 100 = .ok (.iload 5, 2) := by decide +kernel
theorem dX0_followTurn_102 : decode cX0_followTurn 102 = .ok (.invokestatic 60, 3) := by decide +kernel
theorem dX0_followTurn_105 : decode cX0_followTurn 105 = .ok (.iload 5, 2) := by decide +kernel
theorem dX0_followTurn_107 : decode cX0_followTurn 107 = .ok (.iload 4, 2) := by decide +kernel
theorem dX0_followTurn_109 : decode cX0_followTurn 109 = .ok (.invokestatic 60, 3) := by decide +kernel
theorem dX0_followTurn_112 : decode cX0_followTurn 112 = .ok (.invokevirtual 37, 3) := by decide +kernel
theorem dX0_followTurn_115 : decode cX0_followTurn 115 = .ok (.iload_n 3, 1) := by decide +kernel
theorem dX0_followTurn_116 : decode cX0_followTurn 116 = .ok (.ireturn, 1) := by decide +kernel
theorem dX0_addRow_0 : decode cX0_addRow 0 = .ok (.aload_n 0, 1) := by decide +kernel
theorem dX0_addRow_1 : decode cX0_addRow 1 = .ok (.getfield 21, 3) := by decide +kernel
theorem dX0_addRow_4 : decode cX0_addRow 4 = .ok (.ifCond .lt 52, 3) := by decide +kernel
theorem dX0_addRow_7 : decode cX0_addRow 7 = .ok (.aload_n 0, 1) := by decide +kernel
theorem dX0_addRow_8 : decode cX0_addRow 8 = .ok (.getfield 21, 3) := by decide +kernel
theorem dX0_addRow_11 : decode cX0_addRow 11 = .ok (.bipush 16, 2) := by decide +kernel
theorem dX0_addRow_13 : decode cX0_addRow 13 = .ok (.if_icmp .ge 43, 3) := by decide +kernel
theorem dX0_addRow_16 : decode cX0_addRow 16 = .ok (.aload_n 0, 1) := by decide +kernel
theorem dX0_addRow_17 : decode cX0_addRow 17 = .ok (.getfield 9, 3) := by decide +kernel
theorem dX0_addRow_20 : decode cX0_addRow 20 = .ok (.aload_n 0, 1) := by decide +kernel
theorem dX0_addRow_21 : decode cX0_addRow 21 = .ok (.getfield 21, 3) := by decide +kernel
theorem dX0_addRow_24 : decode cX0_addRow 24 = .ok (.iload_n 1, 1) := by decide +kernel
theorem dX0_addRow_25 : decode cX0_addRow 25 = .ok (.iastore, 1) := by decide +kernel
theorem dX0_addRow_26 : decode cX0_addRow 26 = .ok (.aload_n 0, 1) := by decide +kernel
theorem dX0_addRow_27 : decode cX0_addRow 27 = .ok (.getfield 15, 3) := by decide +kernel
theorem dX0_addRow_30 : decode cX0_addRow 30 = .ok (.aload_n 0, 1) := by decide +kernel
theorem dX0_addRow_31 : decode cX0_addRow 31 = .ok (.getfield 21, 3) := by decide +kernel
theorem dX0_addRow_34 : decode cX0_addRow 34 = .ok (.iload_n 2, 1) := by decide +kernel
theorem dX0_addRow_35 : decode cX0_addRow 35 = .ok (.iastore, 1) := by decide +kernel
theorem dX0_addRow_36 : decode cX0_addRow 36 = .ok (.aload_n 0, 1) := by decide +kernel
theorem dX0_addRow_37 : decode cX0_addRow 37 = .ok (.getfield 18, 3) := by decide +kernel
theorem dX0_addRow_40 : decode cX0_addRow 40 = .ok (.aload_n 0, 1) := by decide +kernel
theorem dX0_addRow_41 : decode cX0_addRow 41 = .ok (.getfield 21, 3) := by decide +kernel
theorem dX0_addRow_44 : decode cX0_addRow 44 = .ok (.iload_n 3, 1) := by decide +kernel
theorem dX0_addRow_45 : decode cX0_addRow 45 = .ok (.iastore, 1) := by decide +kernel
theorem dX0_addRow_46 : decode cX0_addRow 46 = .ok (.aload_n 0, 1) := by decide +kernel
theorem dX0_addRow_47 : decode cX0_addRow 47 = .ok (.dup, 1) := by decide +kernel
theorem dX0_addRow_48 : decode cX0_addRow 48 = .ok (.getfield 21, 3) := by decide +kernel
theorem dX0_addRow_51 : decode cX0_addRow 51 = .ok (.iconst 1, 1) := by decide +kernel
theorem dX0_addRow_52 : decode cX0_addRow 52 = .ok (.iadd, 1) := by decide +kernel
theorem dX0_addRow_53 : decode cX0_addRow 53 = .ok (.putfield 21, 3) := by decide +kernel
theorem dX0_addRow_56 : decode cX0_addRow 56 = .ok (.return_, 1) := by decide +kernel
theorem dX0_hasRow_0 : decode cX0_hasRow 0 = .ok (.iload_n 1, 1) := by decide +kernel
theorem dX0_hasRow_1 : decode cX0_hasRow 1 = .ok (.ifCond .lt 21, 3) := by decide +kernel
theorem dX0_hasRow_4 : decode cX0_hasRow 4 = .ok (.iload_n 1, 1) := by decide +kernel
theorem dX0_hasRow_5 : decode cX0_hasRow 5 = .ok (.aload_n 0, 1) := by decide +kernel
theorem dX0_hasRow_6 : decode cX0_hasRow 6 = .ok (.getfield 21, 3) := by decide +kernel
theorem dX0_hasRow_9 : decode cX0_hasRow 9 = .ok (.if_icmp .ge 13, 3) := by decide +kernel
theorem dX0_hasRow_12 : decode cX0_hasRow 12 = .ok (.iload_n 1, 1) := by decide +kernel
theorem dX0_hasRow_13 : decode cX0_hasRow 13 = .ok (.bipush 16, 2) := by decide +kernel
theorem dX0_hasRow_15 : decode cX0_hasRow 15 = .ok (.if_icmp .ge 7, 3) := by decide +kernel
theorem dX0_hasRow_18 : decode cX0_hasRow 18 = .ok (.iconst 1, 1) := by decide +kernel
theorem dX0_hasRow_19 : decode cX0_hasRow 19 = .ok (.goto 4, 3) := by decide +kernel
theorem dX0_hasRow_22 : decode cX0_hasRow 22 = .ok (.iconst 0, 1) := by decide +kernel
theorem dX0_hasRow_23 : decode cX0_hasRow 23 = .ok (.ireturn, 1) := by decide +kernel
set_option maxRecDepth 20000 in
theorem ggX0_winnerIn_X0_hasRow : GoodIn wsX0_winnerIn wsX0_hasRow := goodIn_r _ [6, 7, 8, 9, 10, 11, 12, 13] (by decide +kernel) (by decide +kernel)
set_option maxRecDepth 20000 in
theorem gX0_winnerIn_X0_hasRow : GoodIn wsX0_winnerIn (wsV RX0 64 RX0 yX0_hasRow wsX0_hasRow) := goodIn_app (goodIn_of _ (by decide +kernel)) ggX0_winnerIn_X0_hasRow
theorem dX0_winnerIn_0 : decode cX0_winnerIn 0 = .ok (.aload_n 0, 1) := by decide +kernel
theorem dX0_winnerIn_1 : decode cX0_winnerIn 1 = .ok (.iload_n 1, 1) := by decide +kernel
theorem dX0_winnerIn_2 : decode cX0_winnerIn 2 = .ok (.invokevirtual 64, 3) := by decide +kernel
theorem dX0_winnerIn_5 : decode cX0_winnerIn 5 = .ok (.ifCond .eq 12, 3) := by decide +kernel
theorem dX0_winnerIn_8 : decode cX0_winnerIn 8 = .ok (.aload_n 0, 1) := by decide +kernel
theorem dX0_winnerIn_9 : decode cX0_winnerIn 9 = .ok (.getfield 9, 3) := by decide +kernel
theorem dX0_winnerIn_12 : decode cX0_winnerIn 12 = .ok (.iload_n 1, 1) := by decide +kernel
theorem dX0_winnerIn_13 : decode cX0_winnerIn 13 = .ok (.iaload, 1) := by decide +kernel
theorem dX0_winnerIn_14 : decode cX0_winnerIn 14 = .ok (.goto 4, 3) := by decide +kernel
theorem dX0_winnerIn_17 : decode cX0_winnerIn 17 = .ok (.iconst (-1), 1) := by decide +kernel
theorem dX0_winnerIn_18 : decode cX0_winnerIn 18 = .ok (.ireturn, 1) := by decide +kernel
theorem dX0_rowOf_0 : decode cX0_rowOf 0 = .ok (.iconst 0, 1) := by decide +kernel
theorem dX0_rowOf_1 : decode cX0_rowOf 1 = .ok (.istore_n 2, 1) := by decide +kernel
theorem dX0_rowOf_2 : decode cX0_rowOf 2 = .ok (.iload_n 2, 1) := by decide +kernel
theorem dX0_rowOf_3 : decode cX0_rowOf 3 = .ok (.bipush 16, 2) := by decide +kernel
theorem dX0_rowOf_5 : decode cX0_rowOf 5 = .ok (.if_icmp .ge 29, 3) := by decide +kernel
theorem dX0_rowOf_8 : decode cX0_rowOf 8 = .ok (.iload_n 2, 1) := by decide +kernel
theorem dX0_rowOf_9 : decode cX0_rowOf 9 = .ok (.aload_n 0, 1) := by decide +kernel
theorem dX0_rowOf_10 : decode cX0_rowOf 10 = .ok (.getfield 21, 3) := by decide +kernel
theorem dX0_rowOf_13 : decode cX0_rowOf 13 = .ok (.if_icmp .ge 21, 3) := by decide +kernel
theorem dX0_rowOf_16 : decode cX0_rowOf 16 = .ok (.aload_n 0, 1) := by decide +kernel
theorem dX0_rowOf_17 : decode cX0_rowOf 17 = .ok (.getfield 9, 3) := by decide +kernel
theorem dX0_rowOf_20 : decode cX0_rowOf 20 = .ok (.iload_n 2, 1) := by decide +kernel
theorem dX0_rowOf_21 : decode cX0_rowOf 21 = .ok (.iaload, 1) := by decide +kernel
theorem dX0_rowOf_22 : decode cX0_rowOf 22 = .ok (.iload_n 1, 1) := by decide +kernel
theorem dX0_rowOf_23 : decode cX0_rowOf 23 = .ok (.if_icmp .ne 5, 3) := by decide +kernel
theorem dX0_rowOf_26 : decode cX0_rowOf 26 = .ok (.iload_n 2, 1) := by decide +kernel
theorem dX0_rowOf_27 : decode cX0_rowOf 27 = .ok (.ireturn, 1) := by decide +kernel
theorem dX0_rowOf_28 : decode cX0_rowOf 28 = .ok (.iinc 2 1, 3) := by decide +kernel
theorem dX0_rowOf_31 : decode cX0_rowOf 31 = .ok (.goto (-29), 3) := by decide +kernel
theorem dX0_rowOf_34 : decode cX0_rowOf 34 = .ok (.iconst (-1), 1) := by decide +kernel
theorem dX0_rowOf_35 : decode cX0_rowOf 35 = .ok (.ireturn, 1) := by decide +kernel
set_option maxRecDepth 20000 in
theorem ggX0_numerator_X0_hasRow : GoodIn wsX0_numerator wsX0_hasRow := goodIn_r _ [7, 8, 9, 10, 11, 12, 13, 14] (by decide +kernel) (by decide +kernel)
set_option maxRecDepth 20000 in
theorem gX0_numerator_X0_hasRow : GoodIn wsX0_numerator (wsV RX0 64 RX0 yX0_hasRow wsX0_hasRow) := goodIn_app (goodIn_of _ (by decide +kernel)) ggX0_numerator_X0_hasRow
theorem dX0_numerator_0 : decode cX0_numerator 0 = .ok (.aload_n 0, 1) := by decide +kernel
theorem dX0_numerator_1 : decode cX0_numerator 1 = .ok (.iload_n 1, 1) := by decide +kernel
theorem dX0_numerator_2 : decode cX0_numerator 2 = .ok (.invokevirtual 64, 3) := by decide +kernel
theorem dX0_numerator_5 : decode cX0_numerator 5 = .ok (.ifCond .eq 21, 3) := by decide +kernel
theorem dX0_numerator_8 : decode cX0_numerator 8 = .ok (.iload_n 2, 1) := by decide +kernel
theorem dX0_numerator_9 : decode cX0_numerator 9 = .ok (.aload_n 0, 1) := by decide +kernel
theorem dX0_numerator_10 : decode cX0_numerator 10 = .ok (.getfield 18, 3) := by decide +kernel
theorem dX0_numerator_13 : decode cX0_numerator 13 = .ok (.iload_n 1, 1) := by decide +kernel
theorem dX0_numerator_14 : decode cX0_numerator 14 = .ok (.iaload, 1) := by decide +kernel
theorem dX0_numerator_15 : decode cX0_numerator 15 = .ok (.imul, 1) := by decide +kernel
theorem dX0_numerator_16 : decode cX0_numerator 16 = .ok (.aload_n 0, 1) := by decide +kernel
theorem dX0_numerator_17 : decode cX0_numerator 17 = .ok (.getfield 15, 3) := by decide +kernel
theorem dX0_numerator_20 : decode cX0_numerator 20 = .ok (.iload_n 1, 1) := by decide +kernel
theorem dX0_numerator_21 : decode cX0_numerator 21 = .ok (.iaload, 1) := by decide +kernel
theorem dX0_numerator_22 : decode cX0_numerator 22 = .ok (.iadd, 1) := by decide +kernel
theorem dX0_numerator_23 : decode cX0_numerator 23 = .ok (.goto 4, 3) := by decide +kernel
theorem dX0_numerator_26 : decode cX0_numerator 26 = .ok (.iconst 0, 1) := by decide +kernel
theorem dX0_numerator_27 : decode cX0_numerator 27 = .ok (.ireturn, 1) := by decide +kernel
set_option maxRecDepth 20000 in
theorem ggX0_denominator_X0_hasRow : GoodIn wsX0_denominator wsX0_hasRow := goodIn_r _ [6, 7, 8, 9, 10, 11, 12, 13] (by decide +kernel) (by decide +kernel)
set_option maxRecDepth 20000 in
theorem gX0_denominator_X0_hasRow : GoodIn wsX0_denominator (wsV RX0 64 RX0 yX0_hasRow wsX0_hasRow) := goodIn_app (goodIn_of _ (by decide +kernel)) ggX0_denominator_X0_hasRow
theorem dX0_denominator_0 : decode cX0_denominator 0 = .ok (.aload_n 0, 1) := by decide +kernel
theorem dX0_denominator_1 : decode cX0_denominator 1 = .ok (.iload_n 1, 1) := by decide +kernel
theorem dX0_denominator_2 : decode cX0_denominator 2 = .ok (.invokevirtual 64, 3) := by decide +kernel
theorem dX0_denominator_5 : decode cX0_denominator 5 = .ok (.ifCond .eq 12, 3) := by decide +kernel
theorem dX0_denominator_8 : decode cX0_denominator 8 = .ok (.aload_n 0, 1) := by decide +kernel
theorem dX0_denominator_9 : decode cX0_denominator 9 = .ok (.getfield 18, 3) := by decide +kernel
theorem dX0_denominator_12 : decode cX0_denominator 12 = .ok (.iload_n 1, 1) := by decide +kernel
theorem dX0_denominator_13 : decode cX0_denominator 13 = .ok (.iaload, 1) := by decide +kernel
theorem dX0_denominator_14 : decode cX0_denominator 14 = .ok (.goto 4, 3) := by decide +kernel
theorem dX0_denominator_17 : decode cX0_denominator 17 = .ok (.iconst 0, 1) := by decide +kernel
theorem dX0_denominator_18 : decode cX0_denominator 18 = .ok (.ireturn, 1) := by decide +kernel
theorem dX0_turnsWithin_0 : decode cX0_turnsWithin 0 = .ok (.iconst 0, 1) := by decide +kernel
theorem dX0_turnsWithin_1 : decode cX0_turnsWithin 1 = .ok (.istore_n 2, 1) := by decide +kernel
theorem dX0_turnsWithin_2 : decode cX0_turnsWithin 2 = .ok (.iconst 1, 1) := by decide +kernel
theorem dX0_turnsWithin_3 : decode cX0_turnsWithin 3 = .ok (.istore_n 3, 1) := by decide +kernel
theorem dX0_turnsWithin_4 : decode cX0_turnsWithin 4 = .ok (.iload_n 3, 1) := by decide +kernel
theorem dX0_turnsWithin_5 : decode cX0_turnsWithin 5 = .ok (.bipush 16, 2) := by decide +kernel
theorem dX0_turnsWithin_7 : decode cX0_turnsWithin 7 = .ok (.if_icmp .ge 41, 3) := by decide +kernel
theorem dX0_turnsWithin_10 : decode cX0_turnsWithin 10 = .ok (.iload_n 3, 1) := by decide +kernel
theorem dX0_turnsWithin_11 : decode cX0_turnsWithin 11 = .ok (.aload_n 0, 1) := by decide +kernel
theorem dX0_turnsWithin_12 : decode cX0_turnsWithin 12 = .ok (.getfield 21, 3) := by decide +kernel
theorem dX0_turnsWithin_15 : decode cX0_turnsWithin 15 = .ok (.if_icmp .ge 33, 3) := by decide +kernel
theorem dX0_turnsWithin_18 : decode cX0_turnsWithin 18 = .ok (.aload_n 0, 1) := by decide +kernel
theorem dX0_turnsWithin_19 : decode cX0_turnsWithin 19 = .ok (.getfield 15, 3) := by decide +kernel
theorem dX0_turnsWithin_22 : decode cX0_turnsWithin 22 = .ok (.iload_n 3, 1) := by decide +kernel
theorem dX0_turnsWithin_23 : decode cX0_turnsWithin 23 = .ok (.iaload, 1) := by decide +kernel
theorem dX0_turnsWithin_24 : decode cX0_turnsWithin 24 = .ok (.i2l, 1) := by decide +kernel
theorem dX0_turnsWithin_25 : decode cX0_turnsWithin 25 = .ok (.iload_n 1, 1) := by decide +kernel
theorem dX0_turnsWithin_26 : decode cX0_turnsWithin 26 = .ok (.i2l, 1) := by decide +kernel
theorem dX0_turnsWithin_27 : decode cX0_turnsWithin 27 = .ok (.aload_n 0, 1) := by decide +kernel
theorem dX0_turnsWithin_28 : decode cX0_turnsWithin 28 = .ok (.getfield 18, 3) := by decide +kernel
theorem dX0_turnsWithin_31 : decode cX0_turnsWithin 31 = .ok (.iload_n 3, 1) := by decide +kernel
theorem dX0_turnsWithin_32 : decode cX0_turnsWithin 32 = .ok (.iaload, 1) := by decide +kernel
theorem dX0_turnsWithin_33 : decode cX0_turnsWithin 33 = .ok (.i2l, 1) := by decide +kernel
theorem dX0_turnsWithin_34 : decode cX0_turnsWithin 34 = .ok (.lmul, 1) := by decide +kernel
theorem dX0_turnsWithin_35 : decode cX0_turnsWithin 35 = .ok (.lcmp, 1) := by decide +kernel
theorem dX0_turnsWithin_36 : decode cX0_turnsWithin 36 = .ok (.ifCond .gt 6, 3) := by decide +kernel
theorem dX0_turnsWithin_39 : decode cX0_turnsWithin 39 = .ok (.iinc 2 1, 3) := by decide +kernel
theorem dX0_turnsWithin_42 : decode cX0_turnsWithin 42 = .ok (.iinc 3 1, 3) := by decide +kernel
theorem dX0_turnsWithin_45 : decode cX0_turnsWithin 45 = .ok (.goto (-41), 3) := by decide +kernel
theorem dX0_turnsWithin_48 : decode cX0_turnsWithin 48 = .ok (.iload_n 2, 1) := by decide +kernel
theorem dX0_turnsWithin_49 : decode cX0_turnsWithin 49 = .ok (.ireturn, 1) := by decide +kernel
set_option maxRecDepth 20000 in
theorem ggX0_turnsBefore_X0_numerator : GoodIn wsX0_turnsBefore wsX0_numerator := goodIn_r _ [5, 6, 7, 8, 9, 10, 4, 11, 12, 17, 18, 19, 20, 21, 22] (by decide +kernel) (by decide +kernel)
set_option maxRecDepth 20000 in
theorem gX0_turnsBefore_X0_numerator : GoodIn wsX0_turnsBefore (wsV RX0 70 RX0 yX0_numerator wsX0_numerator) := goodIn_app (goodIn_of _ (by decide +kernel)) ggX0_turnsBefore_X0_numerator
set_option maxRecDepth 20000 in
theorem ggX0_turnsBefore_X0_denominator : GoodIn wsX0_turnsBefore wsX0_denominator := goodIn_r _ [16, 6, 8, 9, 10, 4, 11, 12, 17, 18, 19, 20, 21, 22] (by decide +kernel) (by decide +kernel)
set_option maxRecDepth 20000 in
theorem gX0_turnsBefore_X0_denominator : GoodIn wsX0_turnsBefore (wsV RX0 67 RX0 yX0_denominator wsX0_denominator) := goodIn_app (goodIn_of _ (by decide +kernel)) ggX0_turnsBefore_X0_denominator
theorem dX0_turnsBefore_0 : decode cX0_turnsBefore 0 = .ok (.aload_n 0, 1) := by decide +kernel
theorem dX0_turnsBefore_1 : decode cX0_turnsBefore 1 = .ok (.iconst 1, 1) := by decide +kernel
theorem dX0_turnsBefore_2 : decode cX0_turnsBefore 2 = .ok (.iconst 0, 1) := by decide +kernel
theorem dX0_turnsBefore_3 : decode cX0_turnsBefore 3 = .ok (.invokevirtual 70, 3) := by decide +kernel
theorem dX0_turnsBefore_6 : decode cX0_turnsBefore 6 = .ok (.i2l, 1) := by decide +kernel
theorem dX0_turnsBefore_7 : decode cX0_turnsBefore 7 = .ok (.aload_n 1, 1) := by decide +kernel
theorem dX0_turnsBefore_8 : decode cX0_turnsBefore 8 = .ok (.iconst 1, 1) := by decide +kernel
theorem dX0_turnsBefore_9 : decode cX0_turnsBefore 9 = .ok (.invokevirtual 67, 3) := by decide +kernel
theorem dX0_turnsBefore_12 : decode cX0_turnsBefore 12 = .ok (.i2l, 1) := by decide +kernel
theorem dX0_turnsBefore_13 : decode cX0_turnsBefore 13 = .ok (.lmul, 1) := by decide +kernel
theorem dX0_turnsBefore_14 : decode cX0_turnsBefore 14 = .ok (.lstore_n 2, 1) := by decide +kernel
theorem dX0_turnsBefore_15 : decode cX0_turnsBefore 15 = .ok (.aload_n 1, 1) := by decide +kernel
theorem dX0_turnsBefore_16 : decode cX0_turnsBefore 16 = .ok (.iconst 1, 1) := by decide +kernel
theorem dX0_turnsBefore_17 : decode cX0_turnsBefore 17 = .ok (.iconst 0, 1) := by decide +kernel
theorem dX0_turnsBefore_18 : decode cX0_turnsBefore 18 = .ok (.invokevirtual 70, 3) := by decide +kernel
theorem dX0_turnsBefore_21 : decode cX0_turnsBefore 21 = .ok (.i2l, 1) := by decide +kernel
theorem dX0_turnsBefore_22 : decode cX0_turnsBefore 22 = .ok (.aload_n 0, 1) := by decide +kernel
theorem dX0_turnsBefore_23 : decode cX0_turnsBefore 23 = .ok (.iconst 1, 1) := by decide +kernel
theorem dX0_turnsBefore_24 : decode cX0_turnsBefore 24 = .ok (.invokevirtual 67, 3) := by decide +kernel
theorem dX0_turnsBefore_27 : decode cX0_turnsBefore 27 = .ok (.i2l, 1) := by decide +kernel
theorem dX0_turnsBefore_28 : decode cX0_turnsBefore 28 = .ok (.lmul, 1) := by decide +kernel
theorem dX0_turnsBefore_29 : decode cX0_turnsBefore 29 = .ok (.lstore 4, 2) := by decide +kernel
theorem dX0_turnsBefore_31 : decode cX0_turnsBefore 31 = .ok (.lload_n 2, 1) := by decide +kernel
theorem dX0_turnsBefore_32 : decode cX0_turnsBefore 32 = .ok (.lload 4, 2) := by decide +kernel
theorem dX0_turnsBefore_34 : decode cX0_turnsBefore 34 = .ok (.lcmp, 1) := by decide +kernel
theorem dX0_turnsBefore_35 : decode cX0_turnsBefore 35 = .ok (.ifCond .ge 7, 3) := by decide +kernel
theorem dX0_turnsBefore_38 : decode cX0_turnsBefore 38 = .ok (.iconst 1, 1) := by decide +kernel
theorem dX0_turnsBefore_39 : decode cX0_turnsBefore 39 = .ok (.goto 4, 3) := by decide +kernel
theorem dX0_turnsBefore_42 : decode cX0_turnsBefore 42 = .ok (.iconst 0, 1) := by decide +kernel
theorem dX0_turnsBefore_43 : decode cX0_turnsBefore 43 = .ok (.ireturn, 1) := by decide +kernel
theorem dX1_init_0 : decode cX1_init 0 = .ok (.aload_n 0, 1) := by decide +kernel
theorem dX1_init_1 : decode cX1_init 1 = .ok (.invokespecial 3, 3) := by decide +kernel
theorem dX1_init_4 : decode cX1_init 4 = .ok (.aload_n 0, 1) := by decide +kernel
theorem dX1_init_5 : decode cX1_init 5 = .ok (.bipush 16, 2) := by decide +kernel
theorem dX1_init_7 : decode cX1_init 7 = .ok (.newarray .boolean, 2) := by decide +kernel
theorem dX1_init_9 : decode cX1_init 9 = .ok (.putfield 9, 3) := by decide +kernel
theorem dX1_init_12 : decode cX1_init 12 = .ok (.aload_n 0, 1) := by decide +kernel
theorem dX1_init_13 : decode cX1_init 13 = .ok (.bipush 16, 2) := by decide +kernel
theorem dX1_init_15 : decode cX1_init 15 = .ok (.newarray .int, 2) := by decide +kernel
theorem dX1_init_17 : decode cX1_init 17 = .ok (.putfield 15, 3) := by decide +kernel
theorem dX1_init_20 : decode cX1_init 20 = .ok (.aload_n 0, 1) := by decide +kernel
theorem dX1_init_21 : decode cX1_init 21 = .ok (.bipush 16, 2) := by decide +kernel
theorem dX1_init_23 : decode cX1_init 23 = .ok (.newarray .int, 2) := by decide +kernel
theorem dX1_init_25 : decode cX1_init 25 = .ok (.putfield 19, 3) := by decide +kernel
theorem dX1_init_28 : decode cX1_init 28 = .ok (.aload_n 0, 1) := by decide +kernel
theorem dX1_init_29 : decode cX1_init 29 = .ok (.bipush 16, 2) := by decide +kernel
theorem dX1_init_31 : decode cX1_init 31 = .ok (.newarray .int, 2) := by decide +kernel
theorem dX1_init_33 : decode cX1_init 33 = .ok (.putfield 22, 3) := by decide +kernel
theorem dX1_init_36 : decode cX1_init 36 = .ok (.aload_n 0, 1) := by decide +kernel
theorem dX1_init_37 : decode cX1_init 37 = .ok (.bipush 16, 2) := by decide +kernel
theorem dX1_init_39 : decode cX1_init 39 = .ok (.newarray .int, 2) := by decide +kernel
theorem dX1_init_41 : decode cX1_init 41 = .ok (.putfield 25, 3) := by decide +kernel
theorem dX1_init_44 : decode cX1_init 44 = .ok (.aload_n 0, 1) := by decide +kernel
theorem dX1_init_45 : decode cX1_init 45 = .ok (.iconst 0, 1) := by decide +kernel
theorem dX1_init_46 : decode cX1_init 46 = .ok (.putfield 28, 3) := by decide +kernel
theorem dX1_init_49 : decode cX1_init 49 = .ok (.aload_n 0, 1) := by decide +kernel
theorem dX1_init_50 : decode cX1_init 50 = .ok (.iconst 0, 1) := by decide +kernel
theorem dX1_init_51 : decode cX1_init 51 = .ok (.putfield 32, 3) := by decide +kernel
theorem dX1_init_54 : decode cX1_init 54 = .ok (.aload_n 0, 1) := by decide +kernel
theorem dX1_init_55 : decode cX1_init 55 = .ok (.bipush 50, 2) := by decide +kernel
theorem dX1_init_57 : decode cX1_init 57 = .ok (.putfield 35, 3) := by decide +kernel
theorem dX1_init_60 : decode cX1_init 60 = .ok (.return_, 1) := by decide +kernel
theorem dX1_copyFrom_0 : decode cX1_copyFrom 0 = .ok (.iconst 0, 1) := by decide +kernel
theorem dX1_copyFrom_1 : decode cX1_copyFrom 1 = .ok (.istore_n 2, 1) := by decide +kernel
theorem dX1_copyFrom_2 : decode cX1_copyFrom 2 = .ok (.iload_n 2, 1) := by decide +kernel
theorem dX1_copyFrom_3 : decode cX1_copyFrom 3 = .ok (.bipush 16, 2) := by decide +kernel
theorem dX1_copyFrom_5 : decode cX1_copyFrom 5 = .ok (.if_icmp .ge 57, 3) := by decide +kernel
theorem dX1_copyFrom_8 : decode cX1_copyFrom 8 = .ok (.aload_n 0, 1) := by decide +kernel
theorem dX1_copyFrom_9 : decode cX1_copyFrom 9 = .ok (.getfield 9, 3) := by decide +kernel
theorem dX1_copyFrom_12 : decode cX1_copyFrom 12 = .ok (.iload_n 2, 1) := by decide +kernel
theorem dX1_copyFrom_13 : decode cX1_copyFrom 13 = .ok (.aload_n 1, 1) := by decide +kernel
theorem dX1_copyFrom_14 : decode cX1_copyFrom 14 = .ok (.getfield 9, 3) := by decide +kernel
theorem dX1_copyFrom_17 : decode cX1_copyFrom 17 = .ok (.iload_n 2, 1) := by decide +kernel
theorem dX1_copyFrom_18 : decode cX1_copyFrom 18 = .ok (.baload, 1) := by decide +kernel
theorem dX1_copyFrom_19 : decode cX1_copyFrom 19 = .ok (.bastore, 1) := by decide +kernel
theorem dX1_copyFrom_20 : decode cX1_copyFrom 20 = .ok (.aload_n 0, 1) := by decide +kernel
theorem dX1_copyFrom_21 : decode cX1_copyFrom 21 = .ok (.getfield 15, 3) := by decide +kernel
theorem dX1_copyFrom_24 : decode cX1_copyFrom 24 = .ok (.iload_n 2, 1) := by decide +kernel
theorem dX1_copyFrom_25 : decode cX1_copyFrom 25 = .ok (.aload_n 1, 1) := by decide +kernel
theorem dX1_copyFrom_26 : decode cX1_copyFrom 26 = .ok (.getfield 15, 3) := by decide +kernel
theorem dX1_copyFrom_29 : decode cX1_copyFrom 29 = .ok (.iload_n 2, 1) := by decide +kernel
theorem dX1_copyFrom_30 : decode cX1_copyFrom 30 = .ok (.iaload, 1) := by decide +kernel
theorem dX1_copyFrom_31 : decode cX1_copyFrom 31 = .ok (.iastore, 1) := by decide +kernel
theorem dX1_copyFrom_32 : decode cX1_copyFrom 32 = .ok (.aload_n 0, 1) := by decide +kernel
theorem dX1_copyFrom_33 : decode cX1_copyFrom 33 = .ok (.getfield 19, 3) := by decide +kernel
theorem dX1_copyFrom_36 : decode cX1_copyFrom 36 = .ok (.iload_n 2, 1) := by decide +kernel
theorem dX1_copyFrom_37 : decode cX1_copyFrom 37 = .ok (.aload_n 1, 1) := by decide +kernel
theorem dX1_copyFrom_38 : decode cX1_copyFrom 38 = .ok (.getfield 19, 3) := by decide +kernel
theorem dX1_copyFrom_41 : decode cX1_copyFrom 41 = .ok (.iload_n 2, 1) := by decide +kernel
theorem dX1_copyFrom_42 : decode cX1_copyFrom 42 = .ok (.iaload, 1) := by decide +kernel
theorem dX1_copyFrom_43 : decode cX1_copyFrom 43 = .ok (.iastore, 1) := by decide +kernel
theorem dX1_copyFrom_44 : decode cX1_copyFrom 44 = .ok (.aload_n 0, 1) := by decide +kernel
theorem dX1_copyFrom_45 : decode cX1_copyFrom 45 = .ok (.getfield 22, 3) := by decide +kernel
theorem dX1_copyFrom_48 : decode cX1_copyFrom 48 = .ok (.iload_n 2, 1) := by decide +kernel
theorem dX1_copyFrom_49 : decode cX1_copyFrom 49 = .ok (.aload_n 1, 1) := by decide +kernel
theorem dX1_copyFrom_50 : decode cX1_copyFrom 50 = .ok (.getfield 22, 3) := by decide +kernel
theorem dX1_copyFrom_53 : decode cX1_copyFrom 53 = .ok (.iload_n 2, 1) := by decide +kernel
theorem dX1_copyFrom_54 : decode cX1_copyFrom 54 = .ok (.iaload, 1) := by decide +kernel
theorem dX1_copyFrom_55 : decode cX1_copyFrom 55 = .ok (.iastore, 1) := by decide +kernel
theorem dX1_copyFrom_56 : decode cX1_copyFrom 56 = .ok (.iinc 2 1, 3) := by decide +kernel
theorem dX1_copyFrom_59 : decode cX1_copyFrom 59 = .ok (.goto (-57), 3) := by decide +kernel
theorem dX1_copyFrom_62 : decode cX1_copyFrom 62 = .ok (.iconst 1, 1) := by decide +kernel
theorem dX1_copyFrom_63 : decode cX1_copyFrom 63 = .ok (.istore_n 2, 1) := by decide +kernel
theorem dX1_copyFrom_64 : decode cX1_copyFrom 64 = .ok (.iload_n 2, 1) := by decide +kernel
theorem dX1_copyFrom_65 : decode cX1_copyFrom 65 = .ok (.bipush 15, 2) := by decide +kernel
theorem dX1_copyFrom_67 : decode cX1_copyFrom 67 = .ok (.if_icmp .gt 21, 3) := by decide +kernel
theorem dX1_copyFrom_70 : decode cX1_copyFrom 70 = .ok (.aload_n 0, 1) := by decide +kernel
theorem dX1_copyFrom_71 : decode cX1_copyFrom 71 = .ok (.getfield 25, 3) := by decide +kernel
theorem dX1_copyFrom_74 : decode cX1_copyFrom 74 = .ok (.iload_n 2, 1) := by decide +kernel
theorem dX1_copyFrom_75 : decode cX1_copyFrom 75 = .ok (.aload_n 1, 1) := by decide +kernel
theorem dX1_copyFrom_76 : decode cX1_copyFrom 76 = .ok (.getfield 25, 3) := by decide +kernel
theorem dX1_copyFrom_79 : decode cX1_copyFrom 79 = .ok (.iload_n 2, 1) := by decide +kernel
theorem dX1_copyFrom_80 : decode cX1_copyFrom 80 = .ok (.iaload, 1) := by decide +kernel
theorem dX1_copyFrom_81 : decode cX1_copyFrom 81 = .ok (.iastore, 1) := by decide +kernel
theorem dX1_copyFrom_82 : decode cX1_copyFrom 82 = .ok (.iinc 2 1, 3) := by decide +kernel
theorem dX1_copyFrom_85 : decode cX1_copyFrom 85 = .ok (.goto (-21), 3) := by decide +kernel
theorem dX1_copyFrom_88 : decode cX1_copyFrom 88 = .ok (.aload_n 0, 1) := by decide +kernel
theorem dX1_copyFrom_89 : decode cX1_copyFrom 89 = .ok (.aload_n 1, 1) := by decide +kernel
theorem dX1_copyFrom_90 : decode cX1_copyFrom 90 = .ok (.getfield 28, 3) := by decide +kernel
theorem dX1_copyFrom_93 : decode cX1_copyFrom 93 = .ok (.putfield 28, 3) := by decide +kernel
theorem dX1_copyFrom_96 : decode cX1_copyFrom 96 = .ok (.aload_n 0, 1) := by decide +kernel
theorem dX1_copyFrom_97 : decode cX1_copyFrom 97 = .ok (.aload_n 1, 1) := by decide +kernel
theorem dX1_copyFrom_98 : decode cX1_copyFrom 98 = .ok (.getfield 32, 3) := by decide +kernel
theorem dX1_copyFrom_101 : decode cX1_copyFrom 101 = .ok (.putfield 32, 3) := by decide +kernel
theorem dX1_copyFrom_104 : decode cX1_copyFrom 104 = .ok (.aload_n 0, 1) := by decide +kernel
theorem dX1_copyFrom_105 : decode cX1_copyFrom 105 = .ok (.aload_n 1, 1) := by decide +kernel
theorem dX1_copyFrom_106 : decode cX1_copyFrom 106 = .ok (.getfield 35, 3) := by decide +kernel
theorem dX1_copyFrom_109 : decode cX1_copyFrom 109 = .ok (.putfield 35, 3) := by decide +kernel
theorem dX1_copyFrom_112 : decode cX1_copyFrom 112 = .ok (.return_, 1) := by decide +kernel
theorem dX1_has_0 : decode cX1_has 0 = .ok (.iload_n 1, 1) := by decide +kernel
theorem dX1_has_1 : decode cX1_has 1 = .ok (.ifCond .lt 22, 3) := by decide +kernel
theorem dX1_has_4 : decode cX1_has 4 = .ok (.iload_n 1, 1) := by decide +kernel
theorem dX1_has_5 : decode cX1_has 5 = .ok (.bipush 16, 2) := by decide +kernel
theorem dX1_has_7 : decode cX1_has 7 = .ok (.if_icmp .ge 16, 3) := by decide +kernel
theorem dX1_has_10 : decode cX1_has 10 = .ok (.aload_n 0, 1) := by decide +kernel
theorem dX1_has_11 : decode cX1_has 11 = .ok (.getfield 9, 3) := by decide +kernel
theorem dX1_has_14 : decode cX1_has 14 = .ok (.iload_n 1, 1) := by decide +kernel
theorem dX1_has_15 : decode cX1_has 15 = .ok (.baload, 1) := by decide +kernel
theorem dX1_has_16 : decode cX1_has 16 = .ok (.ifCond .eq 7, 3) := by decide +kernel
theorem dX1_has_19 : decode cX1_has 19 = .ok (.iconst 1, 1) := by decide +kernel
theorem dX1_has_20 : decode cX1_has 20 = .ok (.goto 4, 3) := by decide +kernel
theorem dX1_has_23 : decode cX1_has 23 = .ok (.iconst 0, 1) := by decide +kernel
theorem dX1_has_24 : decode cX1_has 24 = .ok (.ireturn, 1) := by decide +kernel
theorem dX1_valueOf_0 : decode cX1_valueOf 0 = .ok (.iload_n 1, 1) := by decide +kernel
theorem dX1_valueOf_1 : decode cX1_valueOf 1 = .ok (.ifCond .lt 18, 3) := by decide +kernel
theorem dX1_valueOf_4 : decode cX1_valueOf 4 = .ok (.iload_n 1, 1) := by decide +kernel
theorem dX1_valueOf_5 : decode cX1_valueOf 5 = .ok (.bipush 16, 2) := by decide +kernel
theorem dX1_valueOf_7 : decode cX1_valueOf 7 = .ok (.if_icmp .ge 12, 3) := by decide +kernel
theorem dX1_valueOf_10 : decode cX1_valueOf 10 = .ok (.aload_n 0, 1) := by decide +kernel
theorem dX1_valueOf_11 : decode cX1_valueOf 11 = .ok (.getfield 15, 3) := by decide +kernel
theorem dX1_valueOf_14 : decode cX1_valueOf 14 = .ok (.iload_n 1, 1) := by decide +kernel
theorem dX1_valueOf_15 : decode cX1_valueOf 15 = .ok (.iaload, 1) := by decide +kernel
theorem dX1_valueOf_16 : decode cX1_valueOf 16 = .ok (.goto 4, 3) := by decide +kernel
theorem dX1_valueOf_19 : decode cX1_valueOf 19 = .ok (.iconst 0, 1) := by decide +kernel
theorem dX1_valueOf_20 : decode cX1_valueOf 20 = .ok (.ireturn, 1) := by decide +kernel
theorem dX1_speedOf_0 : decode cX1_speedOf 0 = .ok (.iload_n 1, 1) := by decide +kernel
theorem dX1_speedOf_1 : decode cX1_speedOf 1 = .ok (.ifCond .lt 18, 3) := by decide +kernel
theorem dX1_speedOf_4 : decode cX1_speedOf 4 = .ok (.iload_n 1, 1) := by decide +kernel
theorem dX1_speedOf_5 : decode cX1_speedOf 5 = .ok (.bipush 16, 2) := by decide +kernel
theorem dX1_speedOf_7 : decode cX1_speedOf 7 = .ok (.if_icmp .ge 12, 3) := by decide +kernel
theorem dX1_speedOf_10 : decode cX1_speedOf 10 = .ok (.aload_n 0, 1) := by decide +kernel
theorem dX1_speedOf_11 : decode cX1_speedOf 11 = .ok (.getfield 19, 3) := by decide +kernel
theorem dX1_speedOf_14 : decode cX1_speedOf 14 = .ok (.iload_n 1, 1) := by decide +kernel
theorem dX1_speedOf_15 : decode cX1_speedOf 15 = .ok (.iaload, 1) := by decide +kernel
theorem dX1_speedOf_16 : decode cX1_speedOf 16 = .ok (.goto 4, 3) := by decide +kernel
theorem dX1_speedOf_19 : decode cX1_speedOf 19 = .ok (.iconst 0, 1) := by decide +kernel
theorem dX1_speedOf_20 : decode cX1_speedOf 20 = .ok (.ireturn, 1) := by decide +kernel
theorem dX1_addedAtOf_0 : decode cX1_addedAtOf 0 = .ok (.iload_n 1, 1) := by decide +kernel
theorem dX1_addedAtOf_1 : decode cX1_addedAtOf 1 = .ok (.ifCond .lt 18, 3) := by decide +kernel
theorem dX1_addedAtOf_4 : decode cX1_addedAtOf 4 = .ok (.iload_n 1, 1) := by decide +kernel
theorem dX1_addedAtOf_5 : decode cX1_addedAtOf 5 = .ok (.bipush 16, 2) := by decide +kernel
theorem dX1_addedAtOf_7 : decode cX1_addedAtOf 7 = .ok (.if_icmp .ge 12, 3) := by decide +kernel
theorem dX1_addedAtOf_10 : decode cX1_addedAtOf 10 = .ok (.aload_n 0, 1) := by decide +kernel
theorem dX1_addedAtOf_11 : decode cX1_addedAtOf 11 = .ok (.getfield 22, 3) := by decide +kernel
theorem dX1_addedAtOf_14 : decode cX1_addedAtOf 14 = .ok (.iload_n 1, 1) := by decide +kernel
theorem dX1_addedAtOf_15 : decode cX1_addedAtOf 15 = .ok (.iaload, 1) := by decide +kernel
theorem dX1_addedAtOf_16 : decode cX1_addedAtOf 16 = .ok (.goto 4, 3) := by decide +kernel
theorem dX1_addedAtOf_19 : decode cX1_addedAtOf 19 = .ok (.iconst 0, 1) := by decide +kernel
theorem dX1_addedAtOf_20 : decode cX1_addedAtOf 20 = .ok (.ireturn, 1) := by decide +kernel
set_option maxRecDepth 20000 in
theorem ggX1_turnedOf_X3_isWithin : GoodIn wsX1_turnedOf wsX3_isWithin := goodIn_r _ [4] (by decide +kernel) (by decide +kernel)
set_option maxRecDepth 20000 in
theorem gX1_turnedOf_X3_isWithin_n38 : GoodIn wsX1_turnedOf (wsX3_isWithin) := ggX1_turnedOf_X3_isWithin
theorem dX1_turnedOf_0 : decode cX1_turnedOf 0 = .ok (.iload_n 1, 1) := by decide +kernel
theorem dX1_turnedOf_1 : decode cX1_turnedOf 1 = .ok (.iconst 1, 1) := by decide +kernel
theorem dX1_turnedOf_2 : decode cX1_turnedOf 2 = .ok (.bipush 15, 2) := by decide +kernel
theorem dX1_turnedOf_4 : decode cX1_turnedOf 4 = .ok (.invokestatic 38, 3) := by decide +kernel
theorem dX1_turnedOf_7 : decode cX1_turnedOf 7 = .ok (.ifCond .eq 12, 3) := by decide +kernel
theorem dX1_turnedOf_10 : decode cX1_turnedOf 10 = .ok (.aload_n 0, 1) := by decide +kernel
theorem dX1_turnedOf_11 : decode cX1_turnedOf 11 = .ok (.getfield 25, 3) := by decide +kernel
theorem dX1_turnedOf_14 : decode cX1_turnedOf 14 = .ok (.iload_n 1, 1) := by decide +kernel
theorem dX1_turnedOf_15 : decode cX1_turnedOf 15 = .ok (.iaload, 1) := by decide +kernel
theorem dX1_turnedOf_16 : decode cX1_turnedOf 16 = .ok (.goto 4, 3) := by decide +kernel
theorem dX1_turnedOf_19 : decode cX1_turnedOf 19 = .ok (.iconst 0, 1) := by decide +kernel
theorem dX1_turnedOf_20 : decode cX1_turnedOf 20 = .ok (.ireturn, 1) := by decide +kernel
theorem dX1_allTurned_0 : decode cX1_allTurned 0 = .ok (.iconst 0, 1) := by decide +kernel
theorem dX1_allTurned_1 : decode cX1_allTurned 1 = .ok (.istore_n 1, 1) := by decide +kernel
theorem dX1_allTurned_2 : decode cX1_allTurned 2 = .ok (.iconst 1, 1) := by decide +kernel
theorem dX1_allTurned_3 : decode cX1_allTurned 3 = .ok (.istore_n 2, 1) := by decide +kernel
theorem dX1_allTurned_4 : decode cX1_allTurned 4 = .ok (.iload_n 2, 1) := by decide +kernel
theorem dX1_allTurned_5 : decode cX1_allTurned 5 = .ok (.bipush 15, 2) := by decide +kernel
theorem dX1_allTurned_7 : decode cX1_allTurned 7 = .ok (.if_icmp .gt 18, 3) := by decide +kernel
theorem dX1_allTurned_10 : decode cX1_allTurned 10 = .ok (.iload_n 1, 1) := by decide +kernel
theorem dX1_allTurned_11 : decode cX1_allTurned 11 = .ok (.aload_n 0, 1) := by decide +kernel
theorem dX1_allTurned_12 : decode cX1_allTurned 12 = .ok (.getfield 25, 3) := by decide +kernel
theorem dX1_allTurned_15 : decode cX1_allTurned 15 = .ok (.iload_n 2, 1) := by decide +kernel
theorem dX1_allTurned_16 : decode cX1_allTurned 16 = .ok (.iaload, 1) := by decide +kernel
theorem dX1_allTurned_17 : decode cX1_allTurned 17 = .ok (.iadd, 1) := by decide +kernel
theorem dX1_allTurned_18 : decode cX1_allTurned 18 = .ok (.istore_n 1, 1) := by decide +kernel
theorem dX1_allTurned_19 : decode cX1_allTurned 19 = .ok (.iinc 2 1, 3) := by decide +kernel
theorem dX1_allTurned_22 : decode cX1_allTurned 22 = .ok (.goto (-18), 3) := by decide +kernel
theorem dX1_allTurned_25 : decode cX1_allTurned 25 = .ok (.iload_n 1, 1) := by decide +kernel
theorem dX1_allTurned_26 : decode cX1_allTurned 26 = .ok (.ireturn, 1) := by decide +kernel
theorem dX1_moverCount_0 : decode cX1_moverCount 0 = .ok (.iconst 0, 1) := by decide +kernel
theorem dX1_moverCount_1 : decode cX1_moverCount 1 = .ok (.istore_n 1, 1) := by decide +kernel
theorem dX1_moverCount_2 : decode cX1_moverCount 2 = .ok (.iconst 0, 1) := by decide +kernel
theorem dX1_moverCount_3 : decode cX1_moverCount 3 = .ok (.istore_n 2, 1) := by decide +kernel
theorem dX1_moverCount_4 : decode cX1_moverCount 4 = .ok (.iload_n 2, 1) := by decide +kernel
theorem dX1_moverCount_5 : decode cX1_moverCount 5 = .ok (.bipush 16, 2) := by decide +kernel
theorem dX1_moverCount_7 : decode cX1_moverCount 7 = .ok (.if_icmp .ge 21, 3) := by decide +kernel
theorem dX1_moverCount_10 : decode cX1_moverCount 10 = .ok (.aload_n 0, 1) := by decide +kernel
theorem dX1_moverCount_11 : decode cX1_moverCount 11 = .ok (.getfield 9, 3) := by decide +kernel
theorem dX1_moverCount_14 : decode cX1_moverCount 14 = .ok (.iload_n 2, 1) := by decide +kernel
theorem dX1_moverCount_15 : decode cX1_moverCount 15 = .ok (.baload, 1) := by decide +kernel
theorem dX1_moverCount_16 : decode cX1_moverCount 16 = .ok (.ifCond .eq 6, 3) := by decide +kernel
theorem dX1_moverCount_19 : decode cX1_moverCount 19 = .ok (.iinc 1 1, 3) := by decide +kernel
theorem dX1_moverCount_22 : decode cX1_moverCount 22 = .ok (.iinc 2 1, 3) := by decide +kernel
theorem dX1_moverCount_25 : decode cX1_moverCount 25 = .ok (.goto (-21), 3) := by decide +kernel
theorem dX1_moverCount_28 : decode cX1_moverCount 28 = .ok (.iload_n 1, 1) := by decide +kernel
theorem dX1_moverCount_29 : decode cX1_moverCount 29 = .ok (.ireturn, 1) := by decide +kernel
theorem dX1_freeSlot_0 : decode cX1_freeSlot 0 = .ok (.iconst 0, 1) := by decide +kernel
theorem dX1_freeSlot_1 : decode cX1_freeSlot 1 = .ok (.istore_n 1, 1) := by decide +kernel
theorem dX1_freeSlot_2 : decode cX1_freeSlot 2 = .ok (.iload_n 1, 1) := by decide +kernel
theorem dX1_freeSlot_3 : decode cX1_freeSlot 3 = .ok (.bipush 16, 2) := by decide +kernel
theorem dX1_freeSlot_5 : decode cX1_freeSlot 5 = .ok (.if_icmp .ge 20, 3) := by decide +kernel
theorem dX1_freeSlot_8 : decode cX1_freeSlot 8 = .ok (.aload_n 0, 1) := by decide +kernel
theorem dX1_freeSlot_9 : decode cX1_freeSlot 9 = .ok (.getfield 9, 3) := by decide +kernel
theorem dX1_freeSlot_12 : decode cX1_freeSlot 12 = .ok (.iload_n 1, 1) := by decide +kernel
theorem dX1_freeSlot_13 : decode cX1_freeSlot 13 = .ok (.baload, 1) := by decide +kernel
theorem dX1_freeSlot_14 : decode cX1_freeSlot 14 = .ok (.ifCond .ne 5, 3) := by decide +kernel
theorem dX1_freeSlot_17 : decode cX1_freeSlot 17 = .ok (.iload_n 1, 1) := by decide +kernel
theorem dX1_freeSlot_18 : decode cX1_freeSlot 18 = .ok (.ireturn, 1) := by decide +kernel
theorem dX1_freeSlot_19 : decode cX1_freeSlot 19 = .ok (.iinc 1 1, 3) := by decide +kernel
theorem dX1_freeSlot_22 : decode cX1_freeSlot 22 = .ok (.goto (-20), 3) := by decide +kernel
theorem dX1_freeSlot_25 : decode cX1_freeSlot 25 = .ok (.iconst (-1), 1) := by decide +kernel
theorem dX1_freeSlot_26 : decode cX1_freeSlot 26 = .ok (.ireturn, 1) := by decide +kernel
set_option maxRecDepth 20000 in
theorem ggX1_put_X3_isSlot : GoodIn wsX1_put wsX3_isSlot := goodIn_r _ [8, 9, 10, 7, 11] (by decide +kernel) (by decide +kernel)
set_option maxRecDepth 20000 in
theorem gX1_put_X3_isSlot_n42 : GoodIn wsX1_put (wsX3_isSlot) := ggX1_put_X3_isSlot
theorem dX1_put_0 : decode cX1_put 0 = .ok (.iload_n 1, 1) := by decide +kernel
theorem dX1_put_1 : decode cX1_put 1 = .ok (.invokestatic 42, 3) := by decide +kernel
theorem dX1_put_4 : decode cX1_put 4 = .ok (.ifCond .eq 34, 3) := by decide +kernel
theorem dX1_put_7 : decode cX1_put 7 = .ok (.aload_n 0, 1) := by decide +kernel
theorem dX1_put_8 : decode cX1_put 8 = .ok (.getfield 9, 3) := by decide +kernel
theorem dX1_put_11 : decode cX1_put 11 = .ok (.iload_n 1, 1) := by decide +kernel
theorem dX1_put_12 : decode cX1_put 12 = .ok (.iconst 1, 1) := by decide +kernel
theorem dX1_put_13 : decode cX1_put 13 = .ok (.bastore, 1) := by decide +kernel
theorem dX1_put_14 : decode cX1_put 14 = .ok (.aload_n 0, 1) := by decide +kernel
theorem dX1_put_15 : decode cX1_put 15 = .ok (.getfield 15, 3) := by decide +kernel
theorem dX1_put_18 : decode cX1_put 18 = .ok (.iload_n 1, 1) := by decide +kernel
theorem dX1_put_19 : decode cX1_put 19 = .ok (.iload_n 2, 1) := by decide +kernel
theorem dX1_put_20 : decode cX1_put 20 = .ok (.iastore, 1) := by decide +kernel
theorem dX1_put_21 : decode cX1_put 21 = .ok (.aload_n 0, 1) := by decide +kernel
theorem dX1_put_22 : decode cX1_put 22 = .ok (.getfield 19, 3) := by decide +kernel
theorem dX1_put_25 : decode cX1_put 25 = .ok (.iload_n 1, 1) := by decide +kernel
theorem dX1_put_26 : decode cX1_put 26 = .ok (.iload_n 3, 1) := by decide +kernel
theorem dX1_put_27 : decode cX1_put 27 = .ok (.iastore, 1) := by decide +kernel
theorem dX1_put_28 : decode cX1_put 28 = .ok (.aload_n 0, 1) := by decide +kernel
theorem dX1_put_29 : decode cX1_put 29 = .ok (.getfield 22, 3) := by decide +kernel
theorem dX1_put_32 : decode cX1_put 32 = .ok (.iload_n 1, 1) := by decide +kernel
theorem dX1_put_33 : decode cX1_put 33 = .ok (.aload_n 0, 1) := by decide +kernel
theorem dX1_put_34 : decode cX1_put 34 = .ok (.getfield 28, 3) := by decide +kernel
theorem dX1_put_37 : decode cX1_put 37 = .ok (.iastore, 1) := by decide +kernel
theorem dX1_put_38 : decode cX1_put 38 = .ok (.return_, 1) := by decide +kernel
set_option maxRecDepth 20000 in
theorem ggX1_free_X3_isSlot : GoodIn wsX1_free wsX3_isSlot := goodIn_r _ [7, 8, 9, 6, 10] (by decide +kernel) (by decide +kernel)
set_option maxRecDepth 20000 in
theorem gX1_free_X3_isSlot_n42 : GoodIn wsX1_free (wsX3_isSlot) := ggX1_free_X3_isSlot
theorem dX1_free_0 : decode cX1_free 0 = .ok (.iload_n 1, 1) := by decide +kernel
theorem dX1_free_1 : decode cX1_free 1 = .ok (.invokestatic 42, 3) := by decide +kernel
theorem dX1_free_4 : decode cX1_free 4 = .ok (.ifCond .eq 31, 3) := by decide +kernel
theorem dX1_free_7 : decode cX1_free 7 = .ok (.aload_n 0, 1) := by decide +kernel
theorem dX1_free_8 : decode cX1_free 8 = .ok (.getfield 9, 3) := by decide +kernel
theorem dX1_free_11 : decode cX1_free 11 = .ok (.iload_n 1, 1) := by decide +kernel
theorem dX1_free_12 : decode cX1_free 12 = .ok (.iconst 0, 1) := by decide +kernel
theorem dX1_free_13 : decode cX1_free 13 = .ok (.bastore, 1) := by decide +kernel
theorem dX1_free_14 : decode cX1_free 14 = .ok (.aload_n 0, 1) := by decide +kernel
theorem dX1_free_15 : decode cX1_free 15 = .ok (.getfield 15, 3) := by decide +kernel
theorem dX1_free_18 : decode cX1_free 18 = .ok (.iload_n 1, 1) := by decide +kernel
theorem dX1_free_19 : decode cX1_free 19 = .ok (.iconst 0, 1) := by decide +kernel
theorem dX1_free_20 : decode cX1_free 20 = .ok (.iastore, 1) := by decide +kernel
theorem dX1_free_21 : decode cX1_free 21 = .ok (.aload_n 0, 1) := by decide +kernel
theorem dX1_free_22 : decode cX1_free 22 = .ok (.getfield 19, 3) := by decide +kernel
theorem dX1_free_25 : decode cX1_free 25 = .ok (.iload_n 1, 1) := by decide +kernel
theorem dX1_free_26 : decode cX1_free 26 = .ok (.iconst 0, 1) := by decide +kernel
theorem dX1_free_27 : decode cX1_free 27 = .ok (.iastore, 1) := by decide +kernel
theorem dX1_free_28 : decode cX1_free 28 = .ok (.aload_n 0, 1) := by decide +kernel
theorem dX1_free_29 : decode cX1_free 29 = .ok (.getfield 22, 3) := by decide +kernel
theorem dX1_free_32 : decode cX1_free 32 = .ok (.iload_n 1, 1) := by decide +kernel
theorem dX1_free_33 : decode cX1_free 33 = .ok (.iconst 0, 1) := by decide +kernel
theorem dX1_free_34 : decode cX1_free 34 = .ok (.iastore, 1) := by decide +kernel
theorem dX1_free_35 : decode cX1_free 35 = .ok (.return_, 1) := by decide +kernel
set_option maxRecDepth 20000 in
theorem ggX1_changeSpeed_X3_isSlot : GoodIn wsX1_changeSpeed wsX3_isSlot := goodIn_r _ [4, 5, 6, 3, 7] (by decide +kernel) (by decide +kernel)
set_option maxRecDepth 20000 in
theorem gX1_changeSpeed_X3_isSlot_n42 : GoodIn wsX1_changeSpeed (wsX3_isSlot) := ggX1_changeSpeed_X3_isSlot
theorem dX1_changeSpeed_0 : decode cX1_changeSpeed 0 = .ok (.iload_n 1, 1) := by decide +kernel
theorem dX1_changeSpeed_1 : decode cX1_changeSpeed 1 = .ok (.invokestatic 42, 3) := by decide +kernel
theorem dX1_changeSpeed_4 : decode cX1_changeSpeed 4 = .ok (.ifCond .eq 10, 3) := by decide +kernel
theorem dX1_changeSpeed_7 : decode cX1_changeSpeed 7 = .ok (.aload_n 0, 1) := by decide +kernel
theorem dX1_changeSpeed_8 : decode cX1_changeSpeed 8 = .ok (.getfield 19, 3) := by decide +kernel
theorem dX1_changeSpeed_11 : decode cX1_changeSpeed 11 = .ok (.iload_n 1, 1) := by decide +kernel
theorem dX1_changeSpeed_12 : decode cX1_changeSpeed 12 = .ok (.iload_n 2, 1) := by decide +kernel
theorem dX1_changeSpeed_13 : decode cX1_changeSpeed 13 = .ok (.iastore, 1) := by decide +kernel
theorem dX1_changeSpeed_14 : decode cX1_changeSpeed 14 = .ok (.return_, 1) := by decide +kernel
set_option maxRecDepth 20000 in
theorem ggX1_changeValue_X3_isSlot : GoodIn wsX1_changeValue wsX3_isSlot := goodIn_r _ [4, 5, 6, 3, 7] (by decide +kernel) (by decide +kernel)
set_option maxRecDepth 20000 in
theorem gX1_changeValue_X3_isSlot_n42 : GoodIn wsX1_changeValue (wsX3_isSlot) := ggX1_changeValue_X3_isSlot
theorem dX1_changeValue_0 : decode cX1_changeValue 0 = .ok (.iload_n 1, 1) := by decide +kernel
theorem dX1_changeValue_1 : decode cX1_changeValue 1 = .ok (.invokestatic 42, 3) := by decide +kernel
theorem dX1_changeValue_4 : decode cX1_changeValue 4 = .ok (.ifCond .eq 10, 3) := by decide +kernel
theorem dX1_changeValue_7 : decode cX1_changeValue 7 = .ok (.aload_n 0, 1) := by decide +kernel
theorem dX1_changeValue_8 : decode cX1_changeValue 8 = .ok (.getfield 15, 3) := by decide +kernel
theorem dX1_changeValue_11 : decode cX1_changeValue 11 = .ok (.iload_n 1, 1) := by decide +kernel
theorem dX1_changeValue_12 : decode cX1_changeValue 12 = .ok (.iload_n 2, 1) := by decide +kernel
theorem dX1_changeValue_13 : decode cX1_changeValue 13 = .ok (.iastore, 1) := by decide +kernel
theorem dX1_changeValue_14 : decode cX1_changeValue 14 = .ok (.return_, 1) := by decide +kernel
set_option maxRecDepth 20000 in
theorem ggX1_exchange_X3_isSlot : GoodIn wsX1_exchange wsX3_isSlot := goodIn_r _ [7, 8, 9, 6, 10] (by decide +kernel) (by decide +kernel)
set_option maxRecDepth 20000 in
theorem gX1_exchange_X3_isSlot_n42 : GoodIn wsX1_exchange (wsX3_isSlot) := ggX1_exchange_X3_isSlot
set_option maxRecDepth 20000 in
theorem ggX1_exchange_X1_exchangeIn : GoodIn wsX1_exchange wsX1_exchangeIn := goodIn_r _ [14, 9, 6, 10] (by decide +kernel) (by decide +kernel)
set_option maxRecDepth 20000 in
theorem gX1_exchange_X1_exchangeIn : GoodIn wsX1_exchange (va_wsS RX1 46 yX1_exchangeIn wsX1_exchangeIn) := goodIn_app (goodIn_of _ (by decide +kernel)) ggX1_exchange_X1_exchangeIn
theorem dX1_exchange_0 : decode cX1_exchange 0 = .ok (.iload_n 1, 1) := by decide +kernel
theorem dX1_exchange_1 : decode cX1_exchange 1 = .ok (.invokestatic 42, 3) := by decide +kernel
theorem dX1_exchange_4 : decode cX1_exchange 4 = .ok (.ifCond .eq 10, 3) := by decide +kernel
theorem dX1_exchange_7 : decode cX1_exchange 7 = .ok (.iload_n 2, 1) := by decide +kernel
theorem dX1_exchange_8 : decode cX1_exchange 8 = .ok (.invokestatic 42, 3) := by decide +kernel
theorem dX1_exchange_11 : decode cX1_exchange 11 = .ok (.ifCond .ne 4, 3) := by decide +kernel
theorem dX1_exchange_14 : decode cX1_exchange 14 = .ok (.return_, 1) := by decide +kernel
theorem dX1_exchange_15 : decode cX1_exchange 15 = .ok (.aload_n 0, 1) := by decide +kernel
theorem dX1_exchange_16 : decode cX1_exchange 16 = .ok (.getfield 9, 3) := by decide +kernel
theorem dX1_exchange_19 : decode cX1_exchange 19 = .ok (.iload_n 2, 1) := by decide +kernel
theorem dX1_exchange_20 : decode cX1_exchange 20 = .ok (.baload, 1) := by decide +kernel
theorem dX1_exchange_21 : decode cX1_exchange 21 = .ok (.istore_n 3, 1) := by decide +kernel
theorem dX1_exchange_22 : decode cX1_exchange 22 = .ok (.aload_n 0, 1) := by decide +kernel
theorem dX1_exchange_23 : decode cX1_exchange 23 = .ok (.getfield 9, 3) := by decide +kernel
theorem dX1_exchange_26 : decode cX1_exchange 26 = .ok (.iload_n 2, 1) := by decide +kernel
theorem dX1_exchange_27 : decode cX1_exchange 27 = .ok (.aload_n 0, 1) := by decide +kernel
theorem dX1_exchange_28 : decode cX1_exchange 28 = .ok (.getfield 9, 3) := by decide +kernel
theorem dX1_exchange_31 : decode cX1_exchange 31 = .ok (.iload_n 1, 1) := by decide +kernel
theorem dX1_exchange_32 : decode cX1_exchange 32 = .ok (.baload, 1) := by decide +kernel
theorem dX1_exchange_33 : decode cX1_exchange 33 = .ok (.bastore, 1) := by decide +kernel
theorem dX1_exchange_34 : decode cX1_exchange 34 = .ok (.aload_n 0, 1) := by decide +kernel
theorem dX1_exchange_35 : decode cX1_exchange 35 = .ok (.getfield 9, 3) := by decide +kernel
theorem dX1_exchange_38 : decode cX1_exchange 38 = .ok (.iload_n 1, 1) := by decide +kernel
theorem dX1_exchange_39 : decode cX1_exchange 39 = .ok (.iload_n 3, 1) := by decide +kernel
theorem dX1_exchange_40 : decode cX1_exchange 40 = .ok (.bastore, 1) := by decide +kernel
theorem dX1_exchange_41 : decode cX1_exchange 41 = .ok (.aload_n 0, 1) := by decide +kernel
theorem dX1_exchange_42 : decode cX1_exchange 42 = .ok (.getfield 15, 3) := by decide +kernel
theorem dX1_exchange_45 : decode cX1_exchange 45 = .ok (.iload_n 1, 1) := by decide +kernel
theorem dX1_exchange_46 : decode cX1_exchange 46 = .ok (.iload_n 2, 1) := by decide +kernel
theorem dX1_exchange_47 : decode cX1_exchange 47 = .ok (.invokestatic 46, 3) := by decide +kernel
theorem dX1_exchange_50 : decode cX1_exchange 50 = .ok (.aload_n 0, 1) := by decide +kernel
theorem dX1_exchange_51 : decode cX1_exchange 51 = .ok (.getfield 19, 3) := by decide +kernel
theorem dX1_exchange_54 : decode cX1_exchange 54 = .ok (.iload_n 1, 1) := by decide +kernel
theorem dX1_exchange_55 : decode cX1_exchange 55 = .ok (.iload_n 2, 1) := by decide +kernel
theorem dX1_exchange_56 : decode cX1_exchange 56 = .ok (.invokestatic 46, 3) := by decide +kernel
theorem dX1_exchange_59 : decode cX1_exchange 59 = .ok (.aload_n 0, 1) := by decide +kernel
theorem dX1_exchange_60 : decode cX1_exchange 60 = .ok (.getfield 22, 3) := by decide +kernel
theorem dX1_exchange_63 : decode cX1_exchange 63 = .ok (.iload_n 1, 1) := by decide +kernel
theorem dX1_exchange_64 : decode cX1_exchange 64 = .ok (.iload_n 2, 1) := by decide +kernel
theorem dX1_exchange_65 : decode cX1_exchange 65 = .ok (.invokestatic 46, 3) := by decide +kernel
theorem dX1_exchange_68 : decode cX1_exchange 68 = .ok (.return_, 1) := by decide +kernel
set_option maxRecDepth 20000 in
theorem ggX1_exchangeIn_X3_isWithin : GoodIn wsX1_exchangeIn wsX3_isWithin := goodIn_r _ [3] (by decide +kernel) (by decide +kernel)
set_option maxRecDepth 20000 in
theorem gX1_exchangeIn_X3_isWithin_n38 : GoodIn wsX1_exchangeIn (wsX3_isWithin) := ggX1_exchangeIn_X3_isWithin
theorem dX1_exchangeIn_0 : decode cX1_exchangeIn 0 = .ok (.iload_n 1, 1) := by decide +kernel
theorem dX1_exchangeIn_1 : decode cX1_exchangeIn 1 = .ok (.iconst 0, 1) := by decide +kernel
theorem dX1_exchangeIn_2 : decode cX1_exchangeIn 2 = .ok (.aload_n 0, 1) := by decide +kernel
theorem dX1_exchangeIn_3 : decode cX1_exchangeIn 3 = .ok (.arraylength, 1) := by decide +kernel
theorem dX1_exchangeIn_4 : decode cX1_exchangeIn 4 = .ok (.iconst 1, 1) := by decide +kernel
theorem dX1_exchangeIn_5 : decode cX1_exchangeIn 5 = .ok (.isub, 1) := by decide +kernel
theorem dX1_exchangeIn_6 : decode cX1_exchangeIn 6 = .ok (.invokestatic 38, 3) := by decide +kernel
theorem dX1_exchangeIn_9 : decode cX1_exchangeIn 9 = .ok (.ifCond .eq 29, 3) := by decide +kernel
theorem dX1_exchangeIn_12 : decode cX1_exchangeIn 12 = .ok (.iload_n 2, 1) := by decide +kernel
theorem dX1_exchangeIn_13 : decode cX1_exchangeIn 13 = .ok (.iconst 0, 1) := by decide +kernel
theorem dX1_exchangeIn_14 : decode cX1_exchangeIn 14 = .ok (.aload_n 0, 1) := by decide +kernel
theorem dX1_exchangeIn_15 : decode cX1_exchangeIn 15 = .ok (.arraylength, 1) := by decide +kernel
theorem dX1_exchangeIn_16 : decode cX1_exchangeIn 16 = .ok (.iconst 1, 1) := by decide +kernel
theorem dX1_exchangeIn_17 : decode cX1_exchangeIn 17 = .ok (.isub, 1) := by decide +kernel
theorem dX1_exchangeIn_18 : decode cX1_exchangeIn 18 = .ok (.invokestatic 38, 3) := by decide +kernel
theorem dX1_exchangeIn_21 : decode cX1_exchangeIn 21 = .ok (.ifCond .eq 17, 3) := by decide +kernel
theorem dX1_exchangeIn_24 : decode cX1_exchangeIn 24 = .ok (.aload_n 0, 1) := by decide +kernel
theorem dX1_exchangeIn_25 : decode cX1_exchangeIn 25 = .ok (.iload_n 2, 1) := by decide +kernel
theorem dX1_exchangeIn_26 : decode cX1_exchangeIn 26 = .ok (.iaload, 1) := by decide +kernel
theorem dX1_exchangeIn_27 : decode cX1_exchangeIn 27 = .ok (.istore_n 3, 1) := by decide +kernel
theorem dX1_exchangeIn_28 : decode cX1_exchangeIn 28 = .ok (.aload_n 0, 1) := by decide +kernel
theorem dX1_exchangeIn_29 : decode cX1_exchangeIn 29 = .ok (.iload_n 2, 1) := by decide +kernel
theorem dX1_exchangeIn_30 : decode cX1_exchangeIn 30 = .ok (.aload_n 0, 1) := by decide +kernel
theorem dX1_exchangeIn_31 : decode cX1_exchangeIn 31 = .ok (.iload_n 1, 1) := by decide +kernel
theorem dX1_exchangeIn_32 : decode cX1_exchangeIn 32 = .ok (.iaload, 1) := by decide +kernel
theorem dX1_exchangeIn_33 : decode cX1_exchangeIn 33 = .ok (.iastore, 1) := by decide +kernel
theorem dX1_exchangeIn_34 : decode cX1_exchangeIn 34 = .ok (.aload_n 0, 1) := by decide +kernel
theorem dX1_exchangeIn_35 : decode cX1_exchangeIn 35 = .ok (.iload_n 1, 1) := by decide +kernel
theorem dX1_exchangeIn_36 : decode cX1_exchangeIn 36 = .ok (.iload_n 3, 1) := by decide +kernel
theorem dX1_exchangeIn_37 : decode cX1_exchangeIn 37 = .ok (.iastore, 1) := by decide +kernel
theorem dX1_exchangeIn_38 : decode cX1_exchangeIn 38 = .ok (.return_, 1) := by decide +kernel
theorem dX1_moveOn_0 : decode cX1_moveOn 0 = .ok (.iconst 0, 1) := by decide +kernel
theorem dX1_moveOn_1 : decode cX1_moveOn 1 = .ok (.istore_n 2, 1) := by decide +kernel
theorem dX1_moveOn_2 : decode cX1_moveOn 2 = .ok (.iload_n 2, 1) := by decide +kernel
theorem dX1_moveOn_3 : decode cX1_moveOn 3 = .ok (.bipush 16, 2) := by decide +kernel
theorem dX1_moveOn_5 : decode cX1_moveOn 5 = .ok (.if_icmp .ge 26, 3) := by decide +kernel
theorem dX1_moveOn_8 : decode cX1_moveOn 8 = .ok (.aload_n 0, 1) := by decide +kernel
theorem dX1_moveOn_9 : decode cX1_moveOn 9 = .ok (.getfield 15, 3) := by decide +kernel
theorem dX1_moveOn_12 : decode cX1_moveOn 12 = .ok (.iload_n 2, 1) := by decide +kernel
theorem dX1_moveOn_13 : decode cX1_moveOn 13 = .ok (.dup2, 1) := by decide +kernel
theorem dX1_moveOn_14 : decode cX1_moveOn 14 = .ok (.iaload, 1) := by decide +kernel
theorem dX1_moveOn_15 : decode cX1_moveOn 15 = .ok (.aload_n 0, 1) := by decide +kernel
theorem dX1_moveOn_16 : decode cX1_moveOn 16 = .ok (.getfield 19, 3) := by decide +kernel
theorem dX1_moveOn_19 : decode cX1_moveOn 19 = .ok (.iload_n 2, 1) := by decide +kernel
theorem dX1_moveOn_20 : decode cX1_moveOn 20 = .ok (.iaload, 1) := by decide +kernel
theorem dX1_moveOn_21 : decode cX1_moveOn 21 = .ok (.iload_n 1, 1) := by decide +kernel
theorem dX1_moveOn_22 : decode cX1_moveOn 22 = .ok (.imul, 1) := by decide +kernel
theorem dX1_moveOn_23 : decode cX1_moveOn 23 = .ok (.iadd, 1) := by decide +kernel
theorem dX1_moveOn_24 : decode cX1_moveOn 24 = .ok (.iastore, 1) := by decide +kernel
theorem dX1_moveOn_25 : decode cX1_moveOn 25 = .ok (.iinc 2 1, 3) := by decide +kernel
theorem dX1_moveOn_28 : decode cX1_moveOn 28 = .ok (.goto (-26), 3) := by decide +kernel
theorem dX1_moveOn_31 : decode cX1_moveOn 31 = .ok (.aload_n 0, 1) := by decide +kernel
theorem dX1_moveOn_32 : decode cX1_moveOn 32 = .ok (.dup, 1) := by decide +kernel
theorem dX1_moveOn_33 : decode cX1_moveOn 33 = .ok (.getfield 28, 3) := by decide +kernel
theorem dX1_moveOn_36 : decode cX1_moveOn 36 = .ok (.iload_n 1, 1) := by decide +kernel
theorem dX1_moveOn_37 : decode cX1_moveOn 37 = .ok (.iadd, 1) := by decide +kernel
theorem dX1_moveOn_38 : decode cX1_moveOn 38 = .ok (.putfield 28, 3) := by decide +kernel
theorem dX1_moveOn_41 : decode cX1_moveOn 41 = .ok (.return_, 1) := by decide +kernel
set_option maxRecDepth 20000 in
theorem ggX1_countTurns_X3_isWithin : GoodIn wsX1_countTurns wsX3_isWithin := goodIn_r _ [4] (by decide +kernel) (by decide +kernel)
set_option maxRecDepth 20000 in
theorem gX1_countTurns_X3_isWithin_n38 : GoodIn wsX1_countTurns (wsX3_isWithin) := ggX1_countTurns_X3_isWithin
theorem dX1_countTurns_0 : decode cX1_countTurns 0 = .ok (.iload_n 1, 1) := by decide +kernel
theorem dX1_countTurns_1 : decode cX1_countTurns 1 = .ok (.iconst 1, 1) := by decide +kernel
theorem dX1_countTurns_2 : decode cX1_countTurns 2 = .ok (.bipush 15, 2) := by decide +kernel
theorem dX1_countTurns_4 : decode cX1_countTurns 4 = .ok (.invokestatic 38, 3) := by decide +kernel
theorem dX1_countTurns_7 : decode cX1_countTurns 7 = .ok (.ifCond .eq 13, 3) := by decide +kernel
theorem dX1_countTurns_10 : decode cX1_countTurns 10 = .ok (.aload_n 0, 1) := by decide +kernel
theorem dX1_countTurns_11 : decode cX1_countTurns 11 = .ok (.getfield 25, 3) := by decide +kernel
theorem dX1_countTurns_14 : decode cX1_countTurns 14 = .ok (.iload_n 1, 1) := by decide +kernel
theorem dX1_countTurns_15 : decode cX1_countTurns 15 = .ok (.dup2, 1) := by decide +kernel
theorem dX1_countTurns_16 : decode cX1_countTurns 16 = .ok (.iaload, 1) := by decide +kernel
theorem dX1_countTurns_17 : decode cX1_countTurns 17 = .ok (.iload_n 2, 1) := by decide +kernel
theorem dX1_countTurns_18 : decode cX1_countTurns 18 = .ok (.iadd, 1) := by decide +kernel
theorem dX1_countTurns_19 : decode cX1_countTurns 19 = .ok (.iastore, 1) := by decide +kernel
theorem dX1_countTurns_20 : decode cX1_countTurns 20 = .ok (.return_, 1) := by decide +kernel
set_option maxRecDepth 20000 in
theorem ggX1_rankOf_X1_isAhead : GoodIn wsX1_rankOf wsX1_isAhead := goodIn_r _ [6, 7, 8, 9, 5, 10, 11, 12, 13, 14, 15, 16, 17, 18, 19, 20, 21, 22, 23, 24, 25, 26, 27, 28, 29, 30, 31, 32, 33] (by decide +kernel) (by decide +kernel)
set_option maxRecDepth 20000 in
theorem gX1_rankOf_X1_isAhead : GoodIn wsX1_rankOf (wsV RX1 50 RX1 yX1_isAhead wsX1_isAhead) := goodIn_app (goodIn_of _ (by decide +kernel)) ggX1_rankOf_X1_isAhead
theorem dX1_rankOf_0 : decode cX1_rankOf 0 = .ok (.iconst 0, 1) := by decide +kernel
theorem dX1_rankOf_1 : decode cX1_rankOf 1 = .ok (.istore_n 2, 1) := by decide +kernel
theorem dX1_rankOf_2 : decode cX1_rankOf 2 = .ok (.iconst 0, 1) := by decide +kernel
theorem dX1_rankOf_3 : decode cX1_rankOf 3 = .ok (.istore_n 3, 1) := by decide +kernel
theorem dX1_rankOf_4 : decode cX1_rankOf 4 = .ok (.iload_n 3, 1) := by decide +kernel
theorem dX1_rankOf_5 : decode cX1_rankOf 5 = .ok (.bipush 16, 2) := by decide +kernel
theorem dX1_rankOf_7 : decode cX1_rankOf 7 = .ok (.if_icmp .ge 31, 3) := by decide +kernel
theorem dX1_rankOf_10 : decode cX1_rankOf 10 = .ok (.aload_n 0, 1) := by decide +kernel
theorem dX1_rankOf_11 : decode cX1_rankOf 11 = .ok (.getfield 9, 3) := by decide +kernel
theorem dX1_rankOf_14 : decode cX1_rankOf 14 = .ok (.iload_n 3, 1) := by decide +kernel
theorem dX1_rankOf_15 : decode cX1_rankOf 15 = .ok (.baload, 1) := by decide +kernel
theorem dX1_rankOf_16 : decode cX1_rankOf 16 = .ok (.ifCond .eq 16, 3) := by decide +kernel
theorem dX1_rankOf_19 : decode cX1_rankOf 19 = .ok (.aload_n 0, 1) := by decide +kernel
theorem dX1_rankOf_20 : decode cX1_rankOf 20 = .ok (.iload_n 3, 1) := by decide +kernel
theorem dX1_rankOf_21 : decode cX1_rankOf 21 = .ok (.iload_n 1, 1) := by decide +kernel
theorem dX1_rankOf_22 : decode cX1_rankOf 22 = .ok (.iconst 0, 1) := by decide +kernel
theorem dX1_rankOf_23 : decode cX1_rankOf 23 = .ok (.invokevirtual 50, 3) := by decide +kernel
theorem dX1_rankOf_26 : decode cX1_rankOf 26 = .ok (.ifCond .eq 6, 3) := by decide +kernel
theorem dX1_rankOf_29 : decode cX1_rankOf 29 = .ok (.iinc 2 1, 3) := by decide +kernel
theorem dX1_rankOf_32 : decode cX1_rankOf 32 = .ok (.iinc 3 1, 3) := by decide +kernel
theorem dX1_rankOf_35 : decode cX1_rankOf 35 = .ok (.goto (-31), 3) := by decide +kernel
theorem dX1_rankOf_38 : decode cX1_rankOf 38 = .ok (.iload_n 2, 1) := by decide +kernel
theorem dX1_rankOf_39 : decode cX1_rankOf 39 = .ok (.ireturn, 1) := by decide +kernel
set_option maxRecDepth 20000 in
theorem ggX1_foremost_X1_has : GoodIn wsX1_foremost wsX1_has := goodIn_r _ [5, 6, 26, 27, 28, 29, 30, 31, 32, 33] (by decide +kernel) (by decide +kernel)
set_option maxRecDepth 20000 in
theorem gX1_foremost_X1_has : GoodIn wsX1_foremost (wsV RX1 53 RX1 yX1_has wsX1_has) := goodIn_app (goodIn_of _ (by decide +kernel)) ggX1_foremost_X1_has
set_option maxRecDepth 20000 in
theorem ggX1_foremost_X1_speedOf : GoodIn wsX1_foremost wsX1_speedOf := goodIn_r _ [10, 11, 26, 27, 28, 29, 30, 31, 32, 33] (by decide +kernel) (by decide +kernel)
set_option maxRecDepth 20000 in
theorem gX1_foremost_X1_speedOf : GoodIn wsX1_foremost (wsV RX1 56 RX1 yX1_speedOf wsX1_speedOf) := goodIn_app (goodIn_of _ (by decide +kernel)) ggX1_foremost_X1_speedOf
set_option maxRecDepth 20000 in
theorem ggX1_foremost_X1_wouldBeAhead : GoodIn wsX1_foremost wsX1_wouldBeAhead := goodIn_r _ [15, 7, 8, 9, 4, 10, 11, 16, 17, 18, 19, 20, 21, 22, 23, 24, 25, 26, 27, 28, 29, 30, 31, 32, 33] (by decide +kernel) (by decide +kernel)
set_option maxRecDepth 20000 in
theorem gX1_foremost_X1_wouldBeAhead : GoodIn wsX1_foremost (wsV RX1 60 RX1 yX1_wouldBeAhead wsX1_wouldBeAhead) := goodIn_app (goodIn_of _ (by decide +kernel)) ggX1_foremost_X1_wouldBeAhead
theorem dX1_foremost_0 : decode cX1_foremost 0 = .ok (.iconst (-1), 1) := by decide +kernel
theorem dX1_foremost_1 : decode cX1_foremost 1 = .ok (.istore 5, 2) := by decide +kernel
theorem dX1_foremost_3 : decode cX1_foremost 3 = .ok (.iload_n 1, 1) := by decide +kernel
theorem dX1_foremost_4 : decode cX1_foremost 4 = .ok (.istore 6, 2) := by decide +kernel
theorem dX1_foremost_6 : decode cX1_foremost 6 = .ok (.iload 6, 2) := by decide +kernel
theorem dX1_foremost_8 : decode cX1_foremost 8 = .ok (.iload_n 2, 1) := by decide +kernel
theorem dX1_foremost_9 : decode cX1_foremost 9 = .ok (.if_icmp .ge 53, 3) := by decide +kernel
theorem dX1_foremost_12 : decode cX1_foremost 12 = .ok (.iload 6, 2) := by decide +kernel
theorem dX1_foremost_14 : decode cX1_foremost 14 = .ok (.iload_n 3, 1) := by decide +kernel
theorem dX1_foremost_15 : decode cX1_foremost 15 = .ok (.if_icmp .eq 41, 3) := by decide +kernel
theorem dX1_foremost_18 : decode cX1_foremost 18 = .ok (.aload_n 0, 1) := by decide +kernel
theorem dX1_foremost_19 : decode cX1_foremost 19 = .ok (.iload 6, 2) := by decide +kernel
theorem dX1_foremost_21 : decode cX1_foremost 21 = .ok (.invokevirtual 53, 3) := by decide +kernel
theorem dX1_foremost_24 : decode cX1_foremost 24 = .ok (.ifCond .eq 32, 3) := by decide +kernel
theorem dX1_foremost_27 : decode cX1_foremost 27 = .ok (.iload 5, 2) := by decide +kernel
theorem dX1_foremost_29 : decode cX1_foremost 29 = .ok (.iconst (-1), 1) := by decide +kernel
theorem dX1_foremost_30 : decode cX1_foremost 30 = .ok (.if_icmp .eq 22, 3) := by decide +kernel
theorem dX1_foremost_33 : decode cX1_foremost 33 = .ok (.aload_n 0, 1) := by decide +kernel
theorem dX1_foremost_34 : decode cX1_foremost 34 = .ok (.iload 6, 2) := by decide +kernel
theorem dX1_foremost_36 : decode cX1_foremost 36 = .ok (.aload_n 0, 1) := by decide +kernel
theorem dX1_foremost_37 : decode cX1_foremost 37 = .ok (.iload 6, 2) := by decide +kernel
theorem dX1_foremost_39 : decode cX1_foremost 39 = .ok (.invokevirtual 56, 3) := by decide +kernel
theorem dX1_foremost_42 : decode cX1_foremost 42 = .ok (.iload 5, 2) := by decide +kernel
theorem dX1_foremost_44 : decode cX1_foremost 44 = .ok (.iload 4, 2) := by decide +kernel
theorem dX1_foremost_46 : decode cX1_foremost 46 = .ok (.invokevirtual 60, 3) := by decide +kernel
theorem dX1_foremost_49 : decode cX1_foremost 49 = .ok (.ifCond .eq 7, 3) := by decide +kernel
theorem dX1_foremost_52 : decode cX1_foremost 52 = .ok (.iload 6, 2) := by decide +kernel
theorem dX1_foremost_54 : decode cX1_foremost 54 = .ok (.istore 5, 2) := by decide +kernel
theorem dX1_foremost_56 : decode cX1_foremost 56 = .ok (.iinc 6 1, 3) := by decide +kernel
theorem dX1_foremost_59 : decode cX1_foremost 59 = .ok (.goto (-53), 3) := by decide +kernel
theorem dX1_foremost_62 : decode cX1_foremost 62 = .ok (.iload 5, 2) := by decide +kernel
theorem dX1_foremost_64 : decode cX1_foremost 64 = .ok (.ireturn, 1) := by decide +kernel
set_option maxRecDepth 20000 in
theorem ggX1_isAhead_X1_speedOf : GoodIn wsX1_isAhead wsX1_speedOf := goodIn_r _ [5, 6, 21, 22, 23, 24, 25, 26, 27, 28] (by decide +kernel) (by decide +kernel)
set_option maxRecDepth 20000 in
theorem gX1_isAhead_X1_speedOf : GoodIn wsX1_isAhead (wsV RX1 56 RX1 yX1_speedOf wsX1_speedOf) := goodIn_app (goodIn_of _ (by decide +kernel)) ggX1_isAhead_X1_speedOf
set_option maxRecDepth 20000 in
theorem ggX1_isAhead_X1_wouldBeAhead : GoodIn wsX1_isAhead wsX1_wouldBeAhead := goodIn_r _ [10, 1, 2, 3, 4, 5, 6, 11, 12, 13, 14, 15, 16, 17, 18, 19, 20, 21, 22, 23, 24, 25, 26, 27, 28] (by decide +kernel) (by decide +kernel)
set_option maxRecDepth 20000 in
theorem gX1_isAhead_X1_wouldBeAhead : GoodIn wsX1_isAhead (wsV RX1 60 RX1 yX1_wouldBeAhead wsX1_wouldBeAhead) := goodIn_app (goodIn_of _ (by decide +kernel)) ggX1_isAhead_X1_wouldBeAhead
theorem dX1_isAhead_0 : decode cX1_isAhead 0 = .ok (.aload_n 0, 1) := by decide +kernel
theorem dX1_isAhead_1 : decode cX1_isAhead 1 = .ok (.iload_n 1, 1) := by decide +kernel
theorem dX1_isAhead_2 : decode cX1_isAhead 2 = .ok (.aload_n 0, 1) := by decide +kernel
theorem dX1_isAhead_3 : decode cX1_isAhead 3 = .ok (.iload_n 1, 1) := by decide +kernel
theorem dX1_isAhead_4 : decode cX1_isAhead 4 = .ok (.invokevirtual 56, 3) := by decide +kernel
theorem dX1_isAhead_7 : decode cX1_isAhead 7 = .ok (.iload_n 2, 1) := by decide +kernel
theorem dX1_isAhead_8 : decode cX1_isAhead 8 = .ok (.iload_n 3, 1) := by decide +kernel
theorem dX1_isAhead_9 : decode cX1_isAhead 9 = .ok (.invokevirtual 60, 3) := by decide +kernel
theorem dX1_isAhead_12 : decode cX1_isAhead 12 = .ok (.ireturn, 1) := by decide +kernel
set_option maxRecDepth 20000 in
theorem ggX1_wouldBeAhead_X1_speedOf : GoodIn wsX1_wouldBeAhead wsX1_speedOf := goodIn_r _ [5, 6, 17, 18, 19, 20, 21, 22, 23, 24] (by decide +kernel) (by decide +kernel)
set_option maxRecDepth 20000 in
theorem gX1_wouldBeAhead_X1_speedOf : GoodIn wsX1_wouldBeAhead (wsV RX1 56 RX1 yX1_speedOf wsX1_speedOf) := goodIn_app (goodIn_of _ (by decide +kernel)) ggX1_wouldBeAhead_X1_speedOf
set_option maxRecDepth 20000 in
theorem ggX1_wouldBeAhead_X1_valueOf : GoodIn wsX1_wouldBeAhead wsX1_valueOf := goodIn_r _ [10, 11, 17, 18, 19, 20, 21, 22, 23, 24] (by decide +kernel) (by decide +kernel)
set_option maxRecDepth 20000 in
theorem gX1_wouldBeAhead_X1_valueOf : GoodIn wsX1_wouldBeAhead (wsV RX1 64 RX1 yX1_valueOf wsX1_valueOf) := goodIn_app (goodIn_of _ (by decide +kernel)) ggX1_wouldBeAhead_X1_valueOf
set_option maxRecDepth 20000 in
theorem ggX1_wouldBeAhead_X1_isBeforeAsEqual : GoodIn wsX1_wouldBeAhead wsX1_isBeforeAsEqual := goodIn_r _ [15, 16, 17, 18, 19, 20, 21, 22, 23, 24] (by decide +kernel) (by decide +kernel)
set_option maxRecDepth 20000 in
theorem gX1_wouldBeAhead_X1_isBeforeAsEqual : GoodIn wsX1_wouldBeAhead (wsV RX1 67 RX1 yX1_isBeforeAsEqual wsX1_isBeforeAsEqual) := goodIn_app (goodIn_of _ (by decide +kernel)) ggX1_wouldBeAhead_X1_isBeforeAsEqual
theorem dX1_wouldBeAhead_0 : decode cX1_wouldBeAhead 0 = .ok (.iload_n 2, 1) := by decide +kernel
theorem dX1_wouldBeAhead_1 : decode cX1_wouldBeAhead 1 = .ok (.i2l, 1) := by decide +kernel
theorem dX1_wouldBeAhead_2 : decode cX1_wouldBeAhead 2 = .ok (.aload_n 0, 1) := by decide +kernel
theorem dX1_wouldBeAhead_3 : decode cX1_wouldBeAhead 3 = .ok (.iload_n 3, 1) := by decide +kernel
theorem dX1_wouldBeAhead_4 : decode cX1_wouldBeAhead 4 = .ok (.invokevirtual 56, 3) := by decide +kernel
theorem dX1_wouldBeAhead_7 : decode cX1_wouldBeAhead 7 = .ok (.i2l, 1) := by decide +kernel
theorem dX1_wouldBeAhead_8 : decode cX1_wouldBeAhead 8 = .ok (.lsub, 1) := by decide +kernel
theorem dX1_wouldBeAhead_9 : decode cX1_wouldBeAhead 9 = .ok (.lstore 5, 2) := by decide +kernel
theorem dX1_wouldBeAhead_11 : decode cX1_wouldBeAhead 11 = .ok (.aload_n 0, 1) := by decide +kernel
theorem dX1_wouldBeAhead_12 : decode cX1_wouldBeAhead 12 = .ok (.iload_n 1, 1) := by decide +kernel
theorem dX1_wouldBeAhead_13 : decode cX1_wouldBeAhead 13 = .ok (.invokevirtual 64, 3) := by decide +kernel
theorem dX1_wouldBeAhead_16 : decode cX1_wouldBeAhead 16 = .ok (.i2l, 1) := by decide +kernel
theorem dX1_wouldBeAhead_17 : decode cX1_wouldBeAhead 17 = .ok (.aload_n 0, 1) := by decide +kernel
theorem dX1_wouldBeAhead_18 : decode cX1_wouldBeAhead 18 = .ok (.iload_n 3, 1) := by decide +kernel
theorem dX1_wouldBeAhead_19 : decode cX1_wouldBeAhead 19 = .ok (.invokevirtual 64, 3) := by decide +kernel
theorem dX1_wouldBeAhead_22 : decode cX1_wouldBeAhead 22 = .ok (.i2l, 1) := by decide +kernel
theorem dX1_wouldBeAhead_23 : decode cX1_wouldBeAhead 23 = .ok (.lsub, 1) := by decide +kernel
theorem dX1_wouldBeAhead_24 : decode cX1_wouldBeAhead 24 = .ok (.lload 5, 2) := by decide +kernel
theorem dX1_wouldBeAhead_26 : decode cX1_wouldBeAhead 26 = .ok (.iload 4, 2) := by decide +kernel
theorem dX1_wouldBeAhead_28 : decode cX1_wouldBeAhead 28 = .ok (.i2l, 1) := by decide +kernel
theorem dX1_wouldBeAhead_29 : decode cX1_wouldBeAhead 29 = .ok (.lmul, 1) := by decide +kernel
theorem dX1_wouldBeAhead_30 : decode cX1_wouldBeAhead 30 = .ok (.ladd, 1) := by decide +kernel
theorem dX1_wouldBeAhead_31 : decode cX1_wouldBeAhead 31 = .ok (.lstore 7, 2) := by decide +kernel
theorem dX1_wouldBeAhead_33 : decode cX1_wouldBeAhead 33 = .ok (.lload 7, 2) := by decide +kernel
theorem dX1_wouldBeAhead_35 : decode cX1_wouldBeAhead 35 = .ok (.lconst 0, 1) := by decide +kernel
theorem dX1_wouldBeAhead_36 : decode cX1_wouldBeAhead 36 = .ok (.lcmp, 1) := by decide +kernel
theorem dX1_wouldBeAhead_37 : decode cX1_wouldBeAhead 37 = .ok (.ifCond .eq 16, 3) := by decide +kernel
theorem dX1_wouldBeAhead_40 : decode cX1_wouldBeAhead 40 = .ok (.lload 7, 2) := by decide +kernel
theorem dX1_wouldBeAhead_42 : decode cX1_wouldBeAhead 42 = .ok (.lconst 0, 1) := by decide +kernel
theorem dX1_wouldBeAhead_43 : decode cX1_wouldBeAhead 43 = .ok (.lcmp, 1) := by decide +kernel
theorem dX1_wouldBeAhead_44 : decode cX1_wouldBeAhead 44 = .ok (.ifCond .le 7, 3) := by decide +kernel
theorem dX1_wouldBeAhead_47 : decode cX1_wouldBeAhead 47 = .ok (.iconst 1, 1) := by decide +kernel
theorem dX1_wouldBeAhead_48 : decode cX1_wouldBeAhead 48 = .ok (.goto 4, 3) := by decide +kernel
theorem dX1_wouldBeAhead_51 : decode cX1_wouldBeAhead 51 = .ok (.iconst 0, 1) := by decide +kernel
theorem dX1_wouldBeAhead_52 : decode cX1_wouldBeAhead 52 = .ok (.ireturn, 1) := by decide +kernel
theorem dX1_wouldBeAhead_53 : decode cX1_wouldBeAhead 53 = .ok (.lload 5, 2) := by decide +kernel
theorem dX1_wouldBeAhead_55 : decode cX1_wouldBeAhead 55 = .ok (.lconst 0, 1) := by decide +kernel
theorem dX1_wouldBeAhead_56 : decode cX1_wouldBeAhead 56 = .ok (.lcmp, 1) := by decide +kernel
theorem dX1_wouldBeAhead_57 : decode cX1_wouldBeAhead 57 = .ok (.ifCond .eq 18, 3) := by decide +kernel
theorem dX1_wouldBeAhead_60 : decode cX1_wouldBeAhead 60 = .ok (.lload 5, 2) := by decide +kernel
theorem dX1_wouldBeAhead_62 : decode cX1_wouldBeAhead 62 = .ok (.lconst 0, 1) := by decide +kernel
theorem dX1_wouldBeAhead_63 : decode cX1_wouldBeAhead 63 = .ok (.lcmp, 1) := by decide +kernel
theorem dX1_wouldBeAhead_64 : decode cX1_wouldBeAhead 64 = .ok (.ifCond .le 7, 3) := by decide +kernel
theorem dX1_wouldBeAhead_67 : decode cX1_wouldBeAhead 67 = .ok (.iconst 1, 1) := by decide +kernel
theorem dX1_wouldBeAhead_68 : decode cX1_wouldBeAhead 68 = .ok (.goto 13, 3) := by decide +kernel
theorem dX1_wouldBeAhead_71 : decode cX1_wouldBeAhead 71 = .ok (.iconst 0, 1) := by decide +kernel
theorem dX1_wouldBeAhead_72 : decode cX1_wouldBeAhead 72 = .ok (.goto 9, 3) := by decide +kernel
theorem dX1_wouldBeAhead_75 : decode cX1_wouldBeAhead 75 = .ok (.aload_n 0, 1) := by decide +kernel
theorem dX1_wouldBeAhead_76 : decode cX1_wouldBeAhead 76 = .ok (.iload_n 1, 1) := by decide +kernel
theorem dX1_wouldBeAhead_77 : decode cX1_wouldBeAhead 77 = .ok (.iload_n 3, 1) := by decide +kernel
theorem dX1_wouldBeAhead_78 : decode cX1_wouldBeAhead 78 = .ok (.invokevirtual 67, 3) := by decide +kernel
theorem dX1_wouldBeAhead_81 : decode cX1_wouldBeAhead 81 = .ok (.ireturn, 1) := by decide +kernel
theorem dX1_isBeforeAsEqual_0 : decode cX1_isBeforeAsEqual 0 = .ok (.aload_n 0, 1) := by decide +kernel
theorem dX1_isBeforeAsEqual_1 : decode cX1_isBeforeAsEqual 1 = .ok (.getfield 32, 3) := by decide +kernel
theorem dX1_isBeforeAsEqual_4 : decode cX1_isBeforeAsEqual 4 = .ok (.iconst 1, 1) := by decide +kernel
theorem dX1_isBeforeAsEqual_5 : decode cX1_isBeforeAsEqual 5 = .ok (.if_icmp .ne 16, 3) := by decide +kernel
theorem dX1_isBeforeAsEqual_8 : decode cX1_isBeforeAsEqual 8 = .ok (.iload_n 1, 1) := by decide +kernel
theorem dX1_isBeforeAsEqual_9 : decode cX1_isBeforeAsEqual 9 = .ok (.iload_n 2, 1) := by decide +kernel
theorem dX1_isBeforeAsEqual_10 : decode cX1_isBeforeAsEqual 10 = .ok (.if_icmp .le 7, 3) := by decide +kernel
theorem dX1_isBeforeAsEqual_13 : decode cX1_isBeforeAsEqual 13 = .ok (.iconst 1, 1) := by decide +kernel
theorem dX1_isBeforeAsEqual_14 : decode cX1_isBeforeAsEqual 14 = .ok (.goto 17, 3) := by decide +kernel
theorem dX1_isBeforeAsEqual_17 : decode cX1_isBeforeAsEqual 17 = .ok (.iconst 0, 1) := by decide +kernel
theorem dX1_isBeforeAsEqual_18 : decode cX1_isBeforeAsEqual 18 = .ok (.goto 13, 3) := by decide +kernel
theorem dX1_isBeforeAsEqual_21 : decode cX1_isBeforeAsEqual 21 = .ok (.iload_n 1, 1) := by decide +kernel
theorem dX1_isBeforeAsEqual_22 : decode cX1_isBeforeAsEqual 22 = .ok (.iload_n 2, 1) := by decide +kernel
theorem dX1_isBeforeAsEqual_23 : decode cX1_isBeforeAsEqual 23 = .ok (.if_icmp .ge 7, 3) := by decide +kernel
theorem dX1_isBeforeAsEqual_26 : decode cX1_isBeforeAsEqual 26 = .ok (.iconst 1, 1) := by decide +kernel
theorem dX1_isBeforeAsEqual_27 : decode cX1_isBeforeAsEqual 27 = .ok (.goto 4, 3) := by decide +kernel
theorem dX1_isBeforeAsEqual_30 : decode cX1_isBeforeAsEqual 30 = .ok (.iconst 0, 1) := by decide +kernel
theorem dX1_isBeforeAsEqual_31 : decode cX1_isBeforeAsEqual 31 = .ok (.ireturn, 1) := by decide +kernel
set_option maxRecDepth 20000 in
theorem ggX1_isSoonerAhead_X1_speedOf : GoodIn wsX1_isSoonerAhead wsX1_speedOf := goodIn_r _ [5, 6, 17, 18, 19, 20, 21, 22, 23, 24] (by decide +kernel) (by decide +kernel)
set_option maxRecDepth 20000 in
theorem gX1_isSoonerAhead_X1_speedOf : GoodIn wsX1_isSoonerAhead (wsV RX1 56 RX1 yX1_speedOf wsX1_speedOf) := goodIn_app (goodIn_of _ (by decide +kernel)) ggX1_isSoonerAhead_X1_speedOf
set_option maxRecDepth 20000 in
theorem ggX1_isSoonerAhead_X1_valueOf : GoodIn wsX1_isSoonerAhead wsX1_valueOf := goodIn_r _ [10, 11, 17, 18, 19, 20, 21, 22, 23, 24] (by decide +kernel) (by decide +kernel)
set_option maxRecDepth 20000 in
theorem gX1_isSoonerAhead_X1_valueOf : GoodIn wsX1_isSoonerAhead (wsV RX1 64 RX1 yX1_valueOf wsX1_valueOf) := goodIn_app (goodIn_of _ (by decide +kernel)) ggX1_isSoonerAhead_X1_valueOf
set_option maxRecDepth 20000 in
theorem ggX1_isSoonerAhead_X1_isBeforeAsEqual : GoodIn wsX1_isSoonerAhead wsX1_isBeforeAsEqual := goodIn_r _ [15, 16, 17, 18, 19, 20, 21, 22, 23, 24] (by decide +kernel) (by decide +kernel)
set_option maxRecDepth 20000 in
theorem gX1_isSoonerAhead_X1_isBeforeAsEqual : GoodIn wsX1_isSoonerAhead (wsV RX1 67 RX1 yX1_isBeforeAsEqual wsX1_isBeforeAsEqual) := goodIn_app (goodIn_of _ (by decide +kernel)) ggX1_isSoonerAhead_X1_isBeforeAsEqual
theorem dX1_isSoonerAhead_0 : decode cX1_isSoonerAhead 0 = .ok (.aload_n 0, 1) := by decide +kernel
theorem dX1_isSoonerAhead_1 : decode cX1_isSoonerAhead 1 = .ok (.iload_n 1, 1) := by decide +kernel
theorem dX1_isSoonerAhead_2 : decode cX1_isSoonerAhead 2 = .ok (.invokevirtual 56, 3) := by decide +kernel
theorem dX1_isSoonerAhead_5 : decode cX1_isSoonerAhead 5 = .ok (.i2l, 1) := by decide +kernel
theorem dX1_isSoonerAhead_6 : decode cX1_isSoonerAhead 6 = .ok (.aload_n 0, 1) := by decide +kernel
theorem dX1_isSoonerAhead_7 : decode cX1_isSoonerAhead 7 = .ok (.iload_n 3, 1) := by decide +kernel
theorem dX1_isSoonerAhead_8 : decode cX1_isSoonerAhead 8 = .ok (.invokevirtual 56, 3) := by decide +kernel
theorem dX1_isSoonerAhead_11 : decode cX1_isSoonerAhead 11 = .ok (.i2l, 1) := by decide +kernel
theorem dX1_isSoonerAhead_12 : decode cX1_isSoonerAhead 12 = .ok (.lsub, 1) := by decide +kernel
theorem dX1_isSoonerAhead_13 : decode cX1_isSoonerAhead 13 = .ok (.lstore 4, 2) := by decide +kernel
theorem dX1_isSoonerAhead_15 : decode cX1_isSoonerAhead 15 = .ok (.aload_n 0, 1) := by decide +kernel
theorem dX1_isSoonerAhead_16 : decode cX1_isSoonerAhead 16 = .ok (.iload_n 2, 1) := by decide +kernel
theorem dX1_isSoonerAhead_17 : decode cX1_isSoonerAhead 17 = .ok (.invokevirtual 56, 3) := by decide +kernel
theorem dX1_isSoonerAhead_20 : decode cX1_isSoonerAhead 20 = .ok (.i2l, 1) := by decide +kernel
theorem dX1_isSoonerAhead_21 : decode cX1_isSoonerAhead 21 = .ok (.aload_n 0, 1) := by decide +kernel
theorem dX1_isSoonerAhead_22 : decode cX1_isSoonerAhead 22 = .ok (.iload_n 3, 1) := by decide +kernel
theorem dX1_isSoonerAhead_23 : decode cX1_isSoonerAhead 23 = .ok (.invokevirtual 56, 3) := by decide +kernel
theorem dX1_isSoonerAhead_26 : decode cX1_isSoonerAhead 26 = .ok (.i2l, 1) := by decide +kernel
theorem dX1_isSoonerAhead_27 : decode cX1_isSoonerAhead 27 = .ok (.lsub, 1) := by decide +kernel
theorem dX1_isSoonerAhead_28 : decode cX1_isSoonerAhead 28 = .ok (.lstore 6, 2) := by decide +kernel
theorem dX1_isSoonerAhead_30 : decode cX1_isSoonerAhead 30 = .ok (.aload_n 0, 1) := by decide +kernel
theorem dX1_isSoonerAhead_31 : decode cX1_isSoonerAhead 31 = .ok (.iload_n 3, 1) := by decide +kernel
theorem dX1_isSoonerAhead_32 : decode cX1_isSoonerAhead 32 = .ok (.invokevirtual 64, 3) := by decide +kernel
theorem dX1_isSoonerAhead_35 : decode cX1_isSoonerAhead 35 = .ok (.i2l, 1) := by decide +kernel
theorem dX1_isSoonerAhead_36 : decode cX1_isSoonerAhead 36 = .ok (.aload_n 0, 1) := by decide +kernel
theorem dX1_isSoonerAhead_37 : decode cX1_isSoonerAhead 37 = .ok (.iload_n 1, 1) := by decide +kernel
theorem dX1_isSoonerAhead_38 : decode cX1_isSoonerAhead 38 = .ok (.invokevirtual 64, 3) := by decide +kernel
theorem dX1_isSoonerAhead_41 : decode cX1_isSoonerAhead 41 = .ok (.i2l, 1) := by decide +kernel
theorem dX1_isSoonerAhead_42 : decode cX1_isSoonerAhead 42 = .ok (.lsub, 1) := by decide +kernel
theorem dX1_isSoonerAhead_43 : decode cX1_isSoonerAhead 43 = .ok (.lstore 8, 2) := by decide +kernel
theorem dX1_isSoonerAhead_45 : decode cX1_isSoonerAhead 45 = .ok (.aload_n 0, 1) := by decide +kernel
theorem dX1_isSoonerAhead_46 : decode cX1_isSoonerAhead 46 = .ok (.iload_n 3, 1) := by decide +kernel
theorem dX1_isSoonerAhead_47 : decode cX1_isSoonerAhead 47 = .ok (.invokevirtual 64, 3) := by decide +kernel
theorem dX1_isSoonerAhead_50 : decode cX1_isSoonerAhead 50 = .ok (.i2l, 1) := by decide +kernel
theorem dX1_isSoonerAhead_51 : decode cX1_isSoonerAhead 51 = .ok (.aload_n 0, 1) := by decide +kernel
theorem dX1_isSoonerAhead_52 : decode cX1_isSoonerAhead 52 = .ok (.iload_n 2, 1) := by decide +kernel
theorem dX1_isSoonerAhead_53 : decode cX1_isSoonerAhead 53 = .ok (.invokevirtual 64, 3) := by decide +kernel
theorem dX1_isSoonerAhead_56 : decode cX1_isSoonerAhead 56 = .ok (.i2l, 1) := by decide +kernel
theorem dX1_isSoonerAhead_57 : decode cX1_isSoonerAhead 57 = .ok (.lsub, 1) := by decide +kernel
theorem dX1_isSoonerAhead_58 : decode cX1_isSoonerAhead 58 = .ok (.lstore 10, 2) := by decide +kernel
theorem dX1_isSoonerAhead_60 : decode cX1_isSoonerAhead 60 = .ok (.lload 8, 2) := by decide +kernel
theorem dX1_isSoonerAhead_62 : decode cX1_isSoonerAhead 62 = .ok (.lload 6, 2) := by decide +kernel
theorem dX1_isSoonerAhead_64 : decode cX1_isSoonerAhead 64 = .ok (.lmul, 1) := by decide +kernel
theorem dX1_isSoonerAhead_65 : decode cX1_isSoonerAhead 65 = .ok (.lload 10, 2) := by decide +kernel
theorem dX1_isSoonerAhead_67 : decode cX1_isSoonerAhead 67 = .ok (.lload 4, 2) := by decide +kernel
theorem dX1_isSoonerAhead_69 : decode cX1_isSoonerAhead 69 = .ok (.lmul, 1) := by decide +kernel
theorem dX1_isSoonerAhead_70 : decode cX1_isSoonerAhead 70 = .ok (.lsub, 1) := by decide +kernel
theorem dX1_isSoonerAhead_71 : decode cX1_isSoonerAhead 71 = .ok (.lstore 12, 2) := by decide +kernel
theorem dX1_isSoonerAhead_73 : decode cX1_isSoonerAhead 73 = .ok (.lload 12, 2) := by decide +kernel
theorem dX1_isSoonerAhead_75 : decode cX1_isSoonerAhead 75 = .ok (.lconst 0, 1) := by decide +kernel
theorem dX1_isSoonerAhead_76 : decode cX1_isSoonerAhead 76 = .ok (.lcmp, 1) := by decide +kernel
theorem dX1_isSoonerAhead_77 : decode cX1_isSoonerAhead 77 = .ok (.ifCond .eq 16, 3) := by decide +kernel
theorem dX1_isSoonerAhead_80 : decode cX1_isSoonerAhead 80 = .ok (.lload 12, 2) := by decide +kernel
theorem dX1_isSoonerAhead_82 : decode cX1_isSoonerAhead 82 = .ok (.lconst 0, 1) := by decide +kernel
theorem dX1_isSoonerAhead_83 : decode cX1_isSoonerAhead 83 = .ok (.lcmp, 1) := by decide +kernel
theorem dX1_isSoonerAhead_84 : decode cX1_isSoonerAhead 84 = .ok (.ifCond .ge 7, 3) := by decide +kernel
theorem dX1_isSoonerAhead_87 : decode cX1_isSoonerAhead 87 = .ok (.iconst 1, 1) := by decide +kernel
theorem dX1_isSoonerAhead_88 : decode cX1_isSoonerAhead 88 = .ok (.goto 4, 3) := by decide +kernel
theorem dX1_isSoonerAhead_91 : decode cX1_isSoonerAhead 91 = .ok (.iconst 0, 1) := by decide +kernel
theorem dX1_isSoonerAhead_92 : decode cX1_isSoonerAhead 92 = .ok (.ireturn, 1) := by decide +kernel
theorem dX1_isSoonerAhead_93 : decode cX1_isSoonerAhead 93 = .ok (.lload 4, 2) := by decide +kernel
theorem dX1_isSoonerAhead_95 : decode cX1_isSoonerAhead 95 = .ok (.lload 6, 2) := by decide +kernel
theorem dX1_isSoonerAhead_97 : decode cX1_isSoonerAhead 97 = .ok (.lcmp, 1) := by decide +kernel
theorem dX1_isSoonerAhead_98 : decode cX1_isSoonerAhead 98 = .ok (.ifCond .eq 19, 3) := by decide +kernel
theorem dX1_isSoonerAhead_101 : decode cX1_isSoonerAhead 101 = .ok (.lload 4, 2) := by decide +kernel
theorem dX1_isSoonerAhead_103 : decode cX1_isSoonerAhead 103 = .ok (.lload 6, 2) := by decide +kernel
theorem dX1_isSoonerAhead_105 : decode cX1_isSoonerAhead 105 = .ok (.lcmp, 1) := by decide +kernel
theorem dX1_isSoonerAhead_106 : decode cX1_isSoonerAhead 106 = .ok (.ifCond .le 7, 3) := by decide +kernel
theorem dX1_isSoonerAhead_109 : decode cX1_isSoonerAhead 109 = .ok (.iconst 1, 1) := by decide +kernel
theorem dX1_isSoonerAhead_110 : decode cX1_isSoonerAhead 110 = .ok (.goto 13, 3) := by decide +kernel
theorem dX1_isSoonerAhead_113 : decode cX1_isSoonerAhead 113 = .ok (.iconst 0, 1) := by decide +kernel
theorem dX1_isSoonerAhead_114 : decode cX1_isSoonerAhead 114 = .ok (.goto 9, 3) := by decide +kernel
theorem dX1_isSoonerAhead_117 : decode cX1_isSoonerAhead 117 = .ok (.aload_n 0, 1) := by decide +kernel
theorem dX1_isSoonerAhead_118 : decode cX1_isSoonerAhead 118 = .ok (.iload_n 1, 1) := by decide +kernel
theorem dX1_isSoonerAhead_119 : decode cX1_isSoonerAhead 119 = .ok (.iload_n 2, 1) := by decide +kernel
theorem dX1_isSoonerAhead_120 : decode cX1_isSoonerAhead 120 = .ok (.invokevirtual 67, 3) := by decide +kernel
theorem dX1_isSoonerAhead_123 : decode cX1_isSoonerAhead 123 = .ok (.ireturn, 1) := by decide +kernel
theorem dX2_init_0 : decode cX2_init 0 = .ok (.aload_n 0, 1) := by decide +kernel
theorem dX2_init_1 : decode cX2_init 1 = .ok (.invokespecial 3, 3) := by decide +kernel
theorem dX2_init_4 : decode cX2_init 4 = .ok (.aload_n 0, 1) := by decide +kernel
theorem dX2_init_5 : decode cX2_init 5 = .ok (.bipush 60, 2) := by decide +kernel
theorem dX2_init_7 : decode cX2_init 7 = .ok (.newarray .char, 2) := by decide +kernel
theorem dX2_init_9 : decode cX2_init 9 = .ok (.putfield 9, 3) := by decide +kernel
theorem dX2_init_12 : decode cX2_init 12 = .ok (.aload_n 0, 1) := by decide +kernel
theorem dX2_init_13 : decode cX2_init 13 = .ok (.iconst 0, 1) := by decide +kernel
theorem dX2_init_14 : decode cX2_init 14 = .ok (.putfield 15, 3) := by decide +kernel
theorem dX2_init_17 : decode cX2_init 17 = .ok (.aload_n 0, 1) := by decide +kernel
theorem dX2_init_18 : decode cX2_init 18 = .ok (.iconst 0, 1) := by decide +kernel
theorem dX2_init_19 : decode cX2_init 19 = .ok (.putfield 19, 3) := by decide +kernel
theorem dX2_init_22 : decode cX2_init 22 = .ok (.return_, 1) := by decide +kernel
set_option maxRecDepth 20000 in
theorem ggX3_init_X1_init : GoodIn wsX3_init wsX1_init := goodIn_r _ [23, 24, 2, 3, 25, 26, 16, 27, 28, 29, 30, 31, 32, 33, 51, 52, 53, 54, 55, 56, 57, 58] (by decide +kernel) (by decide +kernel)
set_option maxRecDepth 20000 in
theorem gX3_init_X1_init_n11 : GoodIn wsX3_init (wsX1_init) := ggX3_init_X1_init
set_option maxRecDepth 20000 in
theorem ggX3_init_X0_init : GoodIn wsX3_init wsX0_init := goodIn_r _ [36, 37, 2, 3, 16, 38, 39, 40, 41, 42, 43, 67, 68, 69, 70, 71, 72] (by decide +kernel) (by decide +kernel)
set_option maxRecDepth 20000 in
theorem gX3_init_X0_init : GoodIn wsX3_init (wsX0_init) := ggX3_init_X0_init
set_option maxRecDepth 20000 in
theorem ggX3_init_X2_init : GoodIn wsX3_init wsX2_init := goodIn_r _ [45, 46, 2, 3, 47, 48, 49, 50, 73, 74, 75] (by decide +kernel) (by decide +kernel)
set_option maxRecDepth 20000 in
theorem gX3_init_X2_init_n46 : GoodIn wsX3_init (wsX2_init) := ggX3_init_X2_init
theorem dX3_init_0 : decode cX3_init 0 = .ok (.aload_n 0, 1) := by decide +kernel
theorem dX3_init_1 : decode cX3_init 1 = .ok (.invokespecial 3, 3) := by decide +kernel
theorem dX3_init_4 : decode cX3_init 4 = .ok (.aload_n 0, 1) := by decide +kernel
theorem dX3_init_5 : decode cX3_init 5 = .ok (.new 9, 3) := by decide +kernel
theorem dX3_init_8 : decode cX3_init 8 = .ok (.dup, 1) := by decide +kernel
theorem dX3_init_9 : decode cX3_init 9 = .ok (.invokespecial 11, 3) := by decide +kernel
theorem dX3_init_12 : decode cX3_init 12 = .ok (.putfield 12, 3) := by decide +kernel
theorem dX3_init_15 : decode cX3_init 15 = .ok (.aload_n 0, 1) := by decide +kernel
theorem dX3_init_16 : decode cX3_init 16 = .ok (.bipush 6, 2) := by decide +kernel
theorem dX3_init_18 : decode cX3_init 18 = .ok (.anewarray 9, 3) := by decide +kernel
theorem dX3_init_21 : decode cX3_init 21 = .ok (.putfield 16, 3) := by decide +kernel
theorem dX3_init_24 : decode cX3_init 24 = .ok (.iconst 0, 1) := by decide +kernel
theorem dX3_init_25 : decode cX3_init 25 = .ok (.istore_n 1, 1) := by decide +kernel
theorem dX3_init_26 : decode cX3_init 26 = .ok (.iload_n 1, 1) := by decide +kernel
theorem dX3_init_27 : decode cX3_init 27 = .ok (.bipush 6, 2) := by decide +kernel
theorem dX3_init_29 : decode cX3_init 29 = .ok (.if_icmp .ge 22, 3) := by decide +kernel
theorem dX3_init_32 : decode cX3_init 32 = .ok (.aload_n 0, 1) := by decide +kernel
theorem dX3_init_33 : decode cX3_init 33 = .ok (.getfield 16, 3) := by decide +kernel
theorem dX3_init_36 : decode cX3_init 36 = .ok (.iload_n 1, 1) := by decide +kernel
theorem dX3_init_37 : decode cX3_init 37 = .ok (.new 9, 3) := by decide +kernel
theorem dX3_init_40 : decode cX3_init 40 = .ok (.dup, 1) := by decide +kernel
theorem dX3_init_41 : decode cX3_init 41 = .ok (.invokespecial 11, 3) := by decide +kernel
theorem dX3_init_44 : decode cX3_init 44 = .ok (.aastore, 1) := by decide +kernel
theorem dX3_init_45 : decode cX3_init 45 = .ok (.iinc 1 1, 3) := by decide +kernel
theorem dX3_init_48 : decode cX3_init 48 = .ok (.goto (-22), 3) := by decide +kernel
theorem dX3_init_51 : decode cX3_init 51 = .ok (.aload_n 0, 1) := by decide +kernel
theorem dX3_init_52 : decode cX3_init 52 = .ok (.iconst 0, 1) := by decide +kernel
theorem dX3_init_53 : decode cX3_init 53 = .ok (.putfield 20, 3) := by decide +kernel
theorem dX3_init_56 : decode cX3_init 56 = .ok (.aload_n 0, 1) := by decide +kernel
theorem dX3_init_57 : decode cX3_init 57 = .ok (.iconst 0, 1) := by decide +kernel
theorem dX3_init_58 : decode cX3_init 58 = .ok (.putfield 24, 3) := by decide +kernel
theorem dX3_init_61 : decode cX3_init 61 = .ok (.aload_n 0, 1) := by decide +kernel
theorem dX3_init_62 : decode cX3_init 62 = .ok (.new 27, 3) := by decide +kernel
theorem dX3_init_65 : decode cX3_init 65 = .ok (.dup, 1) := by decide +kernel
theorem dX3_init_66 : decode cX3_init 66 = .ok (.iconst 0, 1) := by decide +kernel
theorem dX3_init_67 : decode cX3_init 67 = .ok (.bipush 16, 2) := by decide +kernel
theorem dX3_init_69 : decode cX3_init 69 = .ok (.invokespecial 29, 3) := by decide +kernel
theorem dX3_init_72 : decode cX3_init 72 = .ok (.putfield 32, 3) := by decide +kernel
theorem dX3_init_75 : decode cX3_init 75 = .ok (.aload_n 0, 1) := by decide +kernel
theorem dX3_init_76 : decode cX3_init 76 = .ok (.bipush 16, 2) := by decide +kernel
theorem dX3_init_78 : decode cX3_init 78 = .ok (.anewarray 27, 3) := by decide +kernel
theorem dX3_init_81 : decode cX3_init 81 = .ok (.putfield 36, 3) := by decide +kernel
theorem dX3_init_84 : decode cX3_init 84 = .ok (.aload_n 0, 1) := by decide +kernel
theorem dX3_init_85 : decode cX3_init 85 = .ok (.getfield 36, 3) := by decide +kernel
theorem dX3_init_88 : decode cX3_init 88 = .ok (.iconst 1, 1) := by decide +kernel
theorem dX3_init_89 : decode cX3_init 89 = .ok (.aload_n 0, 1) := by decide +kernel
theorem dX3_init_90 : decode cX3_init 90 = .ok (.getfield 32, 3) := by decide +kernel
theorem dX3_init_93 : decode cX3_init 93 = .ok (.aastore, 1) := by decide +kernel
theorem dX3_init_94 : decode cX3_init 94 = .ok (.iconst 0, 1) := by decide +kernel
theorem dX3_init_95 : decode cX3_init 95 = .ok (.istore_n 1, 1) := by decide +kernel
theorem dX3_init_96 : decode cX3_init 96 = .ok (.bipush 8, 2) := by decide +kernel
theorem dX3_init_98 : decode cX3_init 98 = .ok (.istore_n 2, 1) := by decide +kernel
theorem dX3_init_99 : decode cX3_init 99 = .ok (.iconst 2, 1) := by decide +kernel
theorem dX3_init_100 : decode cX3_init 100 = .ok (.istore_n 3, 1) := by decide +kernel
theorem dX3_init_101 : decode cX3_init 101 = .ok (.iload_n 3, 1) := by decide +kernel
theorem dX3_init_102 : decode cX3_init 102 = .ok (.bipush 15, 2) := by decide +kernel
theorem dX3_init_104 : decode cX3_init 104 = .ok (.if_icmp .gt 40, 3) := by decide +kernel
theorem dX3_init_107 : decode cX3_init 107 = .ok (.aload_n 0, 1) := by decide +kernel
theorem dX3_init_108 : decode cX3_init 108 = .ok (.getfield 36, 3) := by decide +kernel
theorem dX3_init_111 : decode cX3_init 111 = .ok (.iload_n 3, 1) := by decide +kernel
theorem dX3_init_112 : decode cX3_init 112 = .ok (.new 27, 3) := by decide +kernel
theorem dX3_init_115 : decode cX3_init 115 = .ok (.dup, 1) := by decide +kernel
theorem dX3_init_116 : decode cX3_init 116 = .ok (.iload_n 1, 1) := by decide +kernel
theorem dX3_init_117 : decode cX3_init 117 = .ok (.iload_n 2, 1) := by decide +kernel
theorem dX3_init_118 : decode cX3_init 118 = .ok (.invokespecial 29, 3) := by decide +kernel
theorem dX3_init_121 : decode cX3_init 121 = .ok (.aastore, 1) := by decide +kernel
theorem dX3_init_122 : decode cX3_init 122 = .ok (.iload_n 1, 1) := by decide +kernel
theorem dX3_init_123 : decode cX3_init 123 = .ok (.iload_n 2, 1) := by decide +kernel
theorem dX3_init_124 : decode cX3_init 124 = .ok (.iadd, 1) := by decide +kernel
theorem dX3_init_125 : decode cX3_init 125 = .ok (.istore_n 1, 1) := by decide +kernel
theorem dX3_init_126 : decode cX3_init 126 = .ok (.iload_n 1, 1) := by decide +kernel
theorem dX3_init_127 : decode cX3_init 127 = .ok (.bipush 16, 2) := by decide +kernel
theorem dX3_init_129 : decode cX3_init 129 = .ok (.if_icmp .lt 9, 3) := by decide +kernel
theorem dX3_init_132 : decode cX3_init 132 = .ok (.iconst 0, 1) := by decide +kernel
theorem dX3_init_133 : decode cX3_init 133 = .ok (.istore_n 1, 1) := by decide +kernel
theorem dX3_init_134 : decode cX3_init 134 = .ok (.iload_n 2, 1) := by decide +kernel
theorem dX3_init_135 : decode cX3_init 135 = .ok (.iconst 2, 1) := by decide +kernel
theorem dX3_init_136 : decode cX3_init 136 = .ok (.idiv, 1) := by decide +kernel
theorem dX3_init_137 : decode cX3_init 137 = .ok (.istore_n 2, 1) := by decide +kernel
theorem dX3_init_138 : decode cX3_init 138 = .ok (.iinc 3 1, 3) := by decide +kernel
theorem dX3_init_141 : decode cX3_init 141 = .ok (.goto (-40), 3) := by decide +kernel
theorem dX3_init_144 : decode cX3_init 144 = .ok (.aload_n 0, 1) := by decide +kernel
theorem dX3_init_145 : decode cX3_init 145 = .ok (.bipush 16, 2) := by decide +kernel
theorem dX3_init_147 : decode cX3_init 147 = .ok (.newarray .int, 2) := by decide +kernel
theorem dX3_init_149 : decode cX3_init 149 = .ok (.putfield 40, 3) := by decide +kernel
theorem dX3_init_152 : decode cX3_init 152 = .ok (.aload_n 0, 1) := by decide +kernel
theorem dX3_init_153 : decode cX3_init 153 = .ok (.new 44, 3) := by decide +kernel
theorem dX3_init_156 : decode cX3_init 156 = .ok (.dup, 1) := by decide +kernel
theorem dX3_init_157 : decode cX3_init 157 = .ok (.invokespecial 46, 3) := by decide +kernel
theorem dX3_init_160 : decode cX3_init 160 = .ok (.putfield 47, 3) := by decide +kernel
theorem dX3_init_163 : decode cX3_init 163 = .ok (.return_, 1) := by decide +kernel
set_option maxRecDepth 20000 in
theorem ggX3_add_X3_isWithin : GoodIn wsX3_add wsX3_isWithin := goodIn_r _ [9] (by decide +kernel) (by decide +kernel)
set_option maxRecDepth 20000 in
theorem gX3_add_X3_isWithin : GoodIn wsX3_add (va_wsS RX3 51 yX3_isWithin wsX3_isWithin) := goodIn_app (goodIn_of _ (by decide +kernel)) ggX3_add_X3_isWithin
set_option maxRecDepth 20000 in
theorem ggX3_add_X3_isSpeed : GoodIn wsX3_add wsX3_isSpeed := goodIn_r _ [12, 6, 7, 8, 9] (by decide +kernel) (by decide +kernel)
set_option maxRecDepth 20000 in
theorem gX3_add_X3_isSpeed : GoodIn wsX3_add (va_wsS RX3 55 yX3_isSpeed wsX3_isSpeed) := goodIn_app (goodIn_of _ (by decide +kernel)) ggX3_add_X3_isSpeed
set_option maxRecDepth 20000 in
theorem ggX3_add_X1_freeSlot : GoodIn wsX3_add wsX1_freeSlot := goodIn_r _ [17, 18, 117, 118, 119, 120, 121, 122, 123, 124] (by decide +kernel) (by decide +kernel)
set_option maxRecDepth 20000 in
theorem gX3_add_X1_freeSlot : GoodIn wsX3_add (wsV RX3 66 RX1 yX1_freeSlot wsX1_freeSlot) := goodIn_app (goodIn_of _ (by decide +kernel)) ggX3_add_X1_freeSlot
set_option maxRecDepth 20000 in
theorem ggX3_add_X3_save : GoodIn wsX3_add wsX3_save := goodIn_r _ [22, 23, 24, 5, 25, 26, 27, 8, 28, 29, 30, 31, 32, 16, 33, 18, 34, 35, 36, 37, 38, 39, 40, 109, 110, 111, 112, 113, 114, 115, 116, 117, 118, 119, 120, 121, 122, 123, 124] (by decide +kernel) (by decide +kernel)
set_option maxRecDepth 20000 in
theorem gX3_add_X3_save : GoodIn wsX3_add (wsV RX3 75 RX3 yX3_save wsX3_save) := goodIn_app (goodIn_of _ (by decide +kernel)) ggX3_add_X3_save
set_option maxRecDepth 20000 in
theorem ggX3_add_X1_put : GoodIn wsX3_add wsX1_put := goodIn_r _ [44, 18, 34, 35, 36, 38, 45, 8, 46, 6, 7, 9, 117, 118, 119, 120, 121, 122, 123, 124] (by decide +kernel) (by decide +kernel)
set_option maxRecDepth 20000 in
theorem gX3_add_X1_put : GoodIn wsX3_add (wsV RX3 78 RX1 yX1_put wsX1_put) := goodIn_app (goodIn_of _ (by decide +kernel)) ggX3_add_X1_put
set_option maxRecDepth 20000 in
theorem ggX3_add_X3_foresee : GoodIn wsX3_add wsX3_foresee := goodIn_r _ [50, 5, 51, 52, 53, 8, 54, 55, 56, 57, 58, 59, 60, 61, 62, 63, 64, 65, 66, 67, 16, 68, 69, 70, 71, 72, 18, 73, 74, 75, 76, 35, 77, 78, 79, 80, 81, 82, 83, 84, 34, 85, 86, 87, 88, 39, 89, 90, 91, 92, 93, 94, 95, 96, 97, 98, 99, 100, 101, 102, 103, 104, 105, 106, 107, 108, 109, 110, 111, 112, 113, 114, 115, 116, 125, 126, 127, 128, 129, 130, 117, 118, 119, 120, 121, 122, 123, 124] (by decide +kernel) (by decide +kernel)
set_option maxRecDepth 20000 in
theorem gX3_add_X3_foresee : GoodIn wsX3_add (wsV RX3 82 RX3 yX3_foresee wsX3_foresee) := goodIn_app (goodIn_of _ (by decide +kernel)) ggX3_add_X3_foresee
theorem dX3_add_0 : decode cX3_add 0 = .ok (.iload_n 1, 1) := by decide +kernel
theorem dX3_add_1 : decode cX3_add 1 = .ok (.sipush (-9999), 3) := by decide +kernel
theorem dX3_add_4 : decode cX3_add 4 = .ok (.sipush 9999, 3) := by decide +kernel
theorem dX3_add_7 : decode cX3_add 7 = .ok (.invokestatic 51, 3) := by decide +kernel
theorem dX3_add_10 : decode cX3_add 10 = .ok (.ifCond .eq 10, 3) := by decide +kernel
theorem dX3_add_13 : decode cX3_add 13 = .ok (.iload_n 2, 1) := by decide +kernel
theorem dX3_add_14 : decode cX3_add 14 = .ok (.invokestatic 55, 3) := by decide +kernel
theorem dX3_add_17 : decode cX3_add 17 = .ok (.ifCond .ne 13, 3) := by decide +kernel
theorem dX3_add_20 : decode cX3_add 20 = .ok (.new 59, 3) := by decide +kernel
theorem dX3_add_23 : decode cX3_add 23 = .ok (.dup, 1) := by decide +kernel
theorem dX3_add_24 : decode cX3_add 24 = .ok (.ldc 61, 2) := by decide +kernel
theorem dX3_add_26 : decode cX3_add 26 = .ok (.invokespecial 63, 3) := by decide +kernel
theorem dX3_add_29 : decode cX3_add 29 = .ok (.athrow, 1) := by decide +kernel
theorem dX3_add_30 : decode cX3_add 30 = .ok (.aload_n 0, 1) := by decide +kernel
theorem dX3_add_31 : decode cX3_add 31 = .ok (.getfield 12, 3) := by decide +kernel
theorem dX3_add_34 : decode cX3_add 34 = .ok (.invokevirtual 66, 3) := by decide +kernel
theorem dX3_add_37 : decode cX3_add 37 = .ok (.istore_n 3, 1) := by decide +kernel
theorem dX3_add_38 : decode cX3_add 38 = .ok (.iload_n 3, 1) := by decide +kernel
theorem dX3_add_39 : decode cX3_add 39 = .ok (.iconst (-1), 1) := by decide +kernel
theorem dX3_add_40 : decode cX3_add 40 = .ok (.if_icmp .ne 13, 3) := by decide +kernel
theorem dX3_add_43 : decode cX3_add 43 = .ok (.new 70, 3) := by decide +kernel
theorem dX3_add_46 : decode cX3_add 46 = .ok (.dup, 1) := by decide +kernel
theorem dX3_add_47 : decode cX3_add 47 = .ok (.ldc 72, 2) := by decide +kernel
theorem dX3_add_49 : decode cX3_add 49 = .ok (.invokespecial 74, 3) := by decide +kernel
theorem dX3_add_52 : decode cX3_add 52 = .ok (.athrow, 1) := by decide +kernel
theorem dX3_add_53 : decode cX3_add 53 = .ok (.aload_n 0, 1) := by decide +kernel
theorem dX3_add_54 : decode cX3_add 54 = .ok (.invokevirtual 75, 3) := by decide +kernel
theorem dX3_add_57 : decode cX3_add 57 = .ok (.aload_n 0, 1) := by decide +kernel
theorem dX3_add_58 : decode cX3_add 58 = .ok (.getfield 12, 3) := by decide +kernel
theorem dX3_add_61 : decode cX3_add 61 = .ok (.iload_n 3, 1) := by decide +kernel
theorem dX3_add_62 : decode cX3_add 62 = .ok (.iload_n 1, 1) := by decide +kernel
theorem dX3_add_63 : decode cX3_add 63 = .ok (.iload_n 2, 1) := by decide +kernel
theorem dX3_add_64 : decode cX3_add 64 = .ok (.invokevirtual 78, 3) := by decide +kernel
theorem dX3_add_67 : decode cX3_add 67 = .ok (.aload_n 0, 1) := by decide +kernel
theorem dX3_add_68 : decode cX3_add 68 = .ok (.invokevirtual 82, 3) := by decide +kernel
theorem dX3_add_71 : decode cX3_add 71 = .ok (.iload_n 3, 1) := by decide +kernel
theorem dX3_add_72 : decode cX3_add 72 = .ok (.ireturn, 1) := by decide +kernel
set_option maxRecDepth 20000 in
theorem ggX3_remove_X1_has : GoodIn wsX3_remove wsX1_has := goodIn_r _ [8, 9, 110, 111, 112, 113, 114, 115, 116, 117] (by decide +kernel) (by decide +kernel)
set_option maxRecDepth 20000 in
theorem gX3_remove_X1_has : GoodIn wsX3_remove (wsV RX3 85 RX1 yX1_has wsX1_has) := goodIn_app (goodIn_of _ (by decide +kernel)) ggX3_remove_X1_has
set_option maxRecDepth 20000 in
theorem ggX3_remove_X3_save : GoodIn wsX3_remove wsX3_save := goodIn_r _ [14, 15, 16, 3, 17, 18, 19, 13, 20, 21, 22, 23, 24, 7, 25, 9, 26, 27, 28, 29, 30, 31, 32, 102, 103, 104, 105, 106, 107, 108, 109, 110, 111, 112, 113, 114, 115, 116, 117] (by decide +kernel) (by decide +kernel)
set_option maxRecDepth 20000 in
theorem gX3_remove_X3_save : GoodIn wsX3_remove (wsV RX3 75 RX3 yX3_save wsX3_save) := goodIn_app (goodIn_of _ (by decide +kernel)) ggX3_remove_X3_save
set_option maxRecDepth 20000 in
theorem ggX3_remove_X1_valueOf : GoodIn wsX3_remove wsX1_valueOf := goodIn_r _ [36, 26, 110, 111, 112, 113, 114, 115, 116, 117] (by decide +kernel) (by decide +kernel)
set_option maxRecDepth 20000 in
theorem gX3_remove_X1_valueOf : GoodIn wsX3_remove (wsV RX3 93 RX1 yX1_valueOf wsX1_valueOf) := goodIn_app (goodIn_of _ (by decide +kernel)) ggX3_remove_X1_valueOf
set_option maxRecDepth 20000 in
theorem ggX3_remove_X1_free : GoodIn wsX3_remove wsX1_free := goodIn_r _ [40, 9, 26, 27, 28, 41, 13, 42, 43, 44, 45, 110, 111, 112, 113, 114, 115, 116, 117] (by decide +kernel) (by decide +kernel)
set_option maxRecDepth 20000 in
theorem gX3_remove_X1_free : GoodIn wsX3_remove (wsV RX3 97 RX1 yX1_free wsX1_free) := goodIn_app (goodIn_of _ (by decide +kernel)) ggX3_remove_X1_free
set_option maxRecDepth 20000 in
theorem ggX3_remove_X3_foresee : GoodIn wsX3_remove wsX3_foresee := goodIn_r _ [49, 3, 50, 51, 52, 13, 53, 54, 55, 56, 57, 58, 59, 60, 61, 62, 63, 64, 65, 66, 7, 67, 68, 5, 6, 8, 9, 69, 70, 71, 72, 27, 73, 74, 75, 76, 77, 34, 35, 36, 26, 78, 79, 80, 81, 31, 82, 83, 84, 85, 86, 87, 88, 89, 90, 91, 92, 93, 94, 95, 96, 97, 98, 99, 100, 101, 102, 103, 104, 105, 106, 107, 108, 109, 118, 119, 120, 121, 122, 123, 110, 111, 112, 113, 114, 115, 116, 117] (by decide +kernel) (by decide +kernel)
set_option maxRecDepth 20000 in
theorem gX3_remove_X3_foresee : GoodIn wsX3_remove (wsV RX3 82 RX3 yX3_foresee wsX3_foresee) := goodIn_app (goodIn_of _ (by decide +kernel)) ggX3_remove_X3_foresee
theorem dX3_remove_0 : decode cX3_remove 0 = .ok (.aload_n 0, 1) := by decide +kernel
theorem dX3_remove_1 : decode cX3_remove 1 = .ok (.getfield 12, 3) := by decide +kernel
theorem dX3_remove_4 : decode cX3_remove 4 = .ok (.iload_n 1, 1) := by decide +kernel
theorem dX3_remove_5 : decode cX3_remove 5 = .ok (.invokevirtual 85, 3) := by decide +kernel
theorem dX3_remove_8 : decode cX3_remove 8 = .ok (.ifCond .ne 13, 3) := by decide +kernel
theorem dX3_remove_11 : decode cX3_remove 11 = .ok (.new 88, 3) := by decide +kernel
theorem dX3_remove_14 : decode cX3_remove 14 = .ok (.dup, 1) := by decide +kernel
theorem dX3_remove_15 : decode cX3_remove 15 = .ok (.ldc 90, 2) := by decide +kernel
theorem dX3_remove_17 : decode cX3_remove 17 = .ok (.invokespecial 92, 3) := by decide +kernel
theorem dX3_remove_20 : decode cX3_remove 20 = .ok (.athrow, 1) := by decide +kernel
theorem dX3_remove_21 : decode cX3_remove 21 = .ok (.aload_n 0, 1) := by decide +kernel
theorem dX3_remove_22 : decode cX3_remove 22 = .ok (.invokevirtual 75, 3) := by decide +kernel
theorem dX3_remove_25 : decode cX3_remove 25 = .ok (.aload_n 0, 1) := by decide +kernel
theorem dX3_remove_26 : decode cX3_remove 26 = .ok (.getfield 12, 3) := by decide +kernel
theorem dX3_remove_29 : decode cX3_remove 29 = .ok (.iload_n 1, 1) := by decide +kernel
theorem dX3_remove_30 : decode cX3_remove 30 = .ok (.invokevirtual 93, 3) := by decide +kernel
theorem dX3_remove_33 : decode cX3_remove 33 = .ok (.istore_n 2, 1) := by decide +kernel
theorem dX3_remove_34 : decode cX3_remove 34 = .ok (.aload_n 0, 1) := by decide +kernel
theorem dX3_remove_35 : decode cX3_remove 35 = .ok (.getfield 12, 3) := by decide +kernel
theorem dX3_remove_38 : decode cX3_remove 38 = .ok (.iload_n 1, 1) := by decide +kernel
theorem dX3_remove_39 : decode cX3_remove 39 = .ok (.invokevirtual 97, 3) := by decide +kernel
theorem dX3_remove_42 : decode cX3_remove 42 = .ok (.aload_n 0, 1) := by decide +kernel
theorem dX3_remove_43 : decode cX3_remove 43 = .ok (.invokevirtual 82, 3) := by decide +kernel
theorem dX3_remove_46 : decode cX3_remove 46 = .ok (.iload_n 2, 1) := by decide +kernel
theorem dX3_remove_47 : decode cX3_remove 47 = .ok (.ireturn, 1) := by decide +kernel
set_option maxRecDepth 20000 in
theorem ggX3_speed_X1_has : GoodIn wsX3_speed wsX1_has := goodIn_r _ [10, 11, 115, 116, 117, 118, 119, 120, 121, 122] (by decide +kernel) (by decide +kernel)
set_option maxRecDepth 20000 in
theorem gX3_speed_X1_has : GoodIn wsX3_speed (wsV RX3 85 RX1 yX1_has wsX1_has) := goodIn_app (goodIn_of _ (by decide +kernel)) ggX3_speed_X1_has
set_option maxRecDepth 20000 in
theorem ggX3_speed_X3_isSpeed : GoodIn wsX3_speed wsX3_isSpeed := goodIn_r _ [15, 16, 17, 14, 18] (by decide +kernel) (by decide +kernel)
set_option maxRecDepth 20000 in
theorem gX3_speed_X3_isSpeed : GoodIn wsX3_speed (va_wsS RX3 55 yX3_isSpeed wsX3_isSpeed) := goodIn_app (goodIn_of _ (by decide +kernel)) ggX3_speed_X3_isSpeed
set_option maxRecDepth 20000 in
theorem ggX3_speed_X3_save : GoodIn wsX3_speed wsX3_save := goodIn_r _ [22, 23, 24, 5, 25, 26, 27, 14, 28, 29, 30, 31, 32, 9, 33, 11, 34, 35, 36, 37, 38, 39, 40, 107, 108, 109, 110, 111, 112, 113, 114, 115, 116, 117, 118, 119, 120, 121, 122] (by decide +kernel) (by decide +kernel)
set_option maxRecDepth 20000 in
theorem gX3_speed_X3_save : GoodIn wsX3_speed (wsV RX3 75 RX3 yX3_save wsX3_save) := goodIn_app (goodIn_of _ (by decide +kernel)) ggX3_speed_X3_save
set_option maxRecDepth 20000 in
theorem ggX3_speed_X1_speedOf : GoodIn wsX3_speed wsX1_speedOf := goodIn_r _ [44, 35, 115, 116, 117, 118, 119, 120, 121, 122] (by decide +kernel) (by decide +kernel)
set_option maxRecDepth 20000 in
theorem gX3_speed_X1_speedOf : GoodIn wsX3_speed (wsV RX3 103 RX1 yX1_speedOf wsX1_speedOf) := goodIn_app (goodIn_of _ (by decide +kernel)) ggX3_speed_X1_speedOf
set_option maxRecDepth 20000 in
theorem ggX3_speed_X1_changeSpeed : GoodIn wsX3_speed wsX1_changeSpeed := goodIn_r _ [48, 35, 49, 14, 50, 16, 17, 18, 115, 116, 117, 118, 119, 120, 121, 122] (by decide +kernel) (by decide +kernel)
set_option maxRecDepth 20000 in
theorem gX3_speed_X1_changeSpeed : GoodIn wsX3_speed (wsV RX3 106 RX1 yX1_changeSpeed wsX1_changeSpeed) := goodIn_app (goodIn_of _ (by decide +kernel)) ggX3_speed_X1_changeSpeed
set_option maxRecDepth 20000 in
theorem ggX3_speed_X3_foresee : GoodIn wsX3_speed wsX3_foresee := goodIn_r _ [54, 5, 55, 56, 57, 14, 58, 59, 60, 61, 62, 63, 64, 65, 66, 67, 68, 69, 70, 71, 9, 72, 73, 7, 8, 10, 11, 74, 42, 43, 44, 35, 75, 76, 77, 78, 79, 80, 81, 82, 34, 83, 84, 85, 86, 39, 87, 88, 89, 90, 91, 92, 93, 94, 95, 96, 97, 98, 99, 100, 101, 102, 103, 104, 105, 106, 107, 108, 109, 110, 111, 112, 113, 114, 123, 124, 125, 126, 127, 128, 115, 116, 117, 118, 119, 120, 121, 122] (by decide +kernel) (by decide +kernel)
set_option maxRecDepth 20000 in
theorem gX3_speed_X3_foresee : GoodIn wsX3_speed (wsV RX3 82 RX3 yX3_foresee wsX3_foresee) := goodIn_app (goodIn_of _ (by decide +kernel)) ggX3_speed_X3_foresee
theorem dX3_speed_0 : decode cX3_speed 0 = .ok (.aload_n 0, 1) := by decide +kernel
theorem dX3_speed_1 : decode cX3_speed 1 = .ok (.getfield 12, 3) := by decide +kernel
theorem dX3_speed_4 : decode cX3_speed 4 = .ok (.iload_n 1, 1) := by decide +kernel
theorem dX3_speed_5 : decode cX3_speed 5 = .ok (.invokevirtual 85, 3) := by decide +kernel
theorem dX3_speed_8 : decode cX3_speed 8 = .ok (.ifCond .ne 13, 3) := by decide +kernel
theorem dX3_speed_11 : decode cX3_speed 11 = .ok (.new 88, 3) := by decide +kernel
theorem dX3_speed_14 : decode cX3_speed 14 = .ok (.dup, 1) := by decide +kernel
theorem dX3_speed_15 : decode cX3_speed 15 = .ok (.ldc 90, 2) := by decide +kernel
theorem dX3_speed_17 : decode cX3_speed 17 = .ok (.invokespecial 92, 3) := by decide +kernel
theorem dX3_speed_20 : decode cX3_speed 20 = .ok (.athrow, 1) := by decide +kernel
theorem dX3_speed_21 : decode cX3_speed 21 = .ok (.iload_n 2, 1) := by decide +kernel
theorem dX3_speed_22 : decode cX3_speed 22 = .ok (.invokestatic 55, 3) := by decide +kernel
theorem dX3_speed_25 : decode cX3_speed 25 = .ok (.ifCond .ne 13, 3) := by decide +kernel
theorem dX3_speed_28 : decode cX3_speed 28 = .ok (.new 59, 3) := by decide +kernel
theorem dX3_speed_31 : decode cX3_speed 31 = .ok (.dup, 1) := by decide +kernel
theorem dX3_speed_32 : decode cX3_speed 32 = .ok (.ldc 101, 2) := by decide +kernel
theorem dX3_speed_34 : decode cX3_speed 34 = .ok (.invokespecial 63, 3) := by decide +kernel
theorem dX3_speed_37 : decode cX3_speed 37 = .ok (.athrow, 1) := by decide +kernel
theorem dX3_speed_38 : decode cX3_speed 38 = .ok (.aload_n 0, 1) := by decide +kernel
theorem dX3_speed_39 : decode cX3_speed 39 = .ok (.invokevirtual 75, 3) := by decide +kernel
theorem dX3_speed_42 : decode cX3_speed 42 = .ok (.aload_n 0, 1) := by decide +kernel
theorem dX3_speed_43 : decode cX3_speed 43 = .ok (.getfield 12, 3) := by decide +kernel
theorem dX3_speed_46 : decode cX3_speed 46 = .ok (.iload_n 1, 1) := by decide +kernel
theorem dX3_speed_47 : decode cX3_speed 47 = .ok (.invokevirtual 103, 3) := by decide +kernel
theorem dX3_speed_50 : decode cX3_speed 50 = .ok (.istore_n 3, 1) := by decide +kernel
theorem dX3_speed_51 : decode cX3_speed 51 = .ok (.aload_n 0, 1) := by decide +kernel
theorem dX3_speed_52 : decode cX3_speed 52 = .ok (.getfield 12, 3) := by decide +kernel
theorem dX3_speed_55 : decode cX3_speed 55 = .ok (.iload_n 1, 1) := by decide +kernel
theorem dX3_speed_56 : decode cX3_speed 56 = .ok (.iload_n 2, 1) := by decide +kernel
theorem dX3_speed_57 : decode cX3_speed 57 = .ok (.invokevirtual 106, 3) := by decide +kernel
theorem dX3_speed_60 : decode cX3_speed 60 = .ok (.aload_n 0, 1) := by decide +kernel
theorem dX3_speed_61 : decode cX3_speed 61 = .ok (.invokevirtual 82, 3) := by decide +kernel
theorem dX3_speed_64 : decode cX3_speed 64 = .ok (.iload_n 3, 1) := by decide +kernel
theorem dX3_speed_65 : decode cX3_speed 65 = .ok (.ireturn, 1) := by decide +kernel
set_option maxRecDepth 20000 in
theorem ggX3_jump_X1_has : GoodIn wsX3_jump wsX1_has := goodIn_r _ [14, 15, 116, 117, 118, 119, 120, 121, 122, 123] (by decide +kernel) (by decide +kernel)
set_option maxRecDepth 20000 in
theorem gX3_jump_X1_has : GoodIn wsX3_jump (wsV RX3 85 RX1 yX1_has wsX1_has) := goodIn_app (goodIn_of _ (by decide +kernel)) ggX3_jump_X1_has
set_option maxRecDepth 20000 in
theorem ggX3_jump_X3_isWithin : GoodIn wsX3_jump wsX3_isWithin := goodIn_r _ [19] (by decide +kernel) (by decide +kernel)
set_option maxRecDepth 20000 in
theorem gX3_jump_X3_isWithin : GoodIn wsX3_jump (va_wsS RX3 51 yX3_isWithin wsX3_isWithin) := goodIn_app (goodIn_of _ (by decide +kernel)) ggX3_jump_X3_isWithin
set_option maxRecDepth 20000 in
theorem ggX3_jump_X1_valueOf : GoodIn wsX3_jump wsX1_valueOf := goodIn_r _ [23, 24, 116, 117, 118, 119, 120, 121, 122, 123] (by decide +kernel) (by decide +kernel)
set_option maxRecDepth 20000 in
theorem gX3_jump_X1_valueOf : GoodIn wsX3_jump (wsV RX3 93 RX1 yX1_valueOf wsX1_valueOf) := goodIn_app (goodIn_of _ (by decide +kernel)) ggX3_jump_X1_valueOf
set_option maxRecDepth 20000 in
theorem ggX3_jump_X3_save : GoodIn wsX3_jump wsX3_save := goodIn_r _ [28, 29, 30, 7, 31, 32, 33, 18, 34, 35, 36, 37, 38, 13, 39, 15, 24, 40, 41, 42, 43, 44, 45, 108, 109, 110, 111, 112, 113, 114, 115, 116, 117, 118, 119, 120, 121, 122, 123] (by decide +kernel) (by decide +kernel)
set_option maxRecDepth 20000 in
theorem gX3_jump_X3_save : GoodIn wsX3_jump (wsV RX3 75 RX3 yX3_save wsX3_save) := goodIn_app (goodIn_of _ (by decide +kernel)) ggX3_jump_X3_save
set_option maxRecDepth 20000 in
theorem ggX3_jump_X1_changeValue : GoodIn wsX3_jump wsX1_changeValue := goodIn_r _ [49, 24, 50, 18, 51, 16, 17, 19, 116, 117, 118, 119, 120, 121, 122, 123] (by decide +kernel) (by decide +kernel)
set_option maxRecDepth 20000 in
theorem gX3_jump_X1_changeValue : GoodIn wsX3_jump (wsV RX3 115 RX1 yX1_changeValue wsX1_changeValue) := goodIn_app (goodIn_of _ (by decide +kernel)) ggX3_jump_X1_changeValue
set_option maxRecDepth 20000 in
theorem ggX3_jump_X3_foresee : GoodIn wsX3_jump wsX3_foresee := goodIn_r _ [55, 7, 56, 57, 58, 18, 59, 60, 61, 62, 63, 64, 65, 66, 67, 68, 69, 70, 71, 72, 13, 73, 74, 11, 12, 14, 15, 75, 76, 77, 78, 40, 79, 80, 81, 82, 83, 21, 22, 23, 24, 84, 85, 86, 87, 44, 88, 89, 90, 91, 92, 93, 94, 95, 96, 97, 98, 99, 100, 101, 102, 103, 104, 105, 106, 107, 108, 109, 110, 111, 112, 113, 114, 115, 124, 125, 126, 127, 128, 129, 116, 117, 118, 119, 120, 121, 122, 123] (by decide +kernel) (by decide +kernel)
set_option maxRecDepth 20000 in
theorem gX3_jump_X3_foresee : GoodIn wsX3_jump (wsV RX3 82 RX3 yX3_foresee wsX3_foresee) := goodIn_app (goodIn_of _ (by decide +kernel)) ggX3_jump_X3_foresee
theorem dX3_jump_0 : decode cX3_jump 0 = .ok (.aload_n 0, 1) := by decide +kernel
theorem dX3_jump_1 : decode cX3_jump 1 = .ok (.getfield 12, 3) := by decide +kernel
theorem dX3_jump_4 : decode cX3_jump 4 = .ok (.iload_n 1, 1) := by decide +kernel
theorem dX3_jump_5 : decode cX3_jump 5 = .ok (.invokevirtual 85, 3) := by decide +kernel
theorem dX3_jump_8 : decode cX3_jump 8 = .ok (.ifCond .ne 13, 3) := by decide +kernel
theorem dX3_jump_11 : decode cX3_jump 11 = .ok (.new 88, 3) := by decide +kernel
theorem dX3_jump_14 : decode cX3_jump 14 = .ok (.dup, 1) := by decide +kernel
theorem dX3_jump_15 : decode cX3_jump 15 = .ok (.ldc 90, 2) := by decide +kernel
theorem dX3_jump_17 : decode cX3_jump 17 = .ok (.invokespecial 92, 3) := by decide +kernel
theorem dX3_jump_20 : decode cX3_jump 20 = .ok (.athrow, 1) := by decide +kernel
theorem dX3_jump_21 : decode cX3_jump 21 = .ok (.iload_n 2, 1) := by decide +kernel
theorem dX3_jump_22 : decode cX3_jump 22 = .ok (.sipush (-9999), 3) := by decide +kernel
theorem dX3_jump_25 : decode cX3_jump 25 = .ok (.sipush 9999, 3) := by decide +kernel
theorem dX3_jump_28 : decode cX3_jump 28 = .ok (.invokestatic 51, 3) := by decide +kernel
theorem dX3_jump_31 : decode cX3_jump 31 = .ok (.ifCond .ne 13, 3) := by decide +kernel
theorem dX3_jump_34 : decode cX3_jump 34 = .ok (.new 59, 3) := by decide +kernel
theorem dX3_jump_37 : decode cX3_jump 37 = .ok (.dup, 1) := by decide +kernel
theorem dX3_jump_38 : decode cX3_jump 38 = .ok (.ldc 109, 2) := by decide +kernel
theorem dX3_jump_40 : decode cX3_jump 40 = .ok (.invokespecial 63, 3) := by decide +kernel
theorem dX3_jump_43 : decode cX3_jump 43 = .ok (.athrow, 1) := by decide +kernel
theorem dX3_jump_44 : decode cX3_jump 44 = .ok (.aload_n 0, 1) := by decide +kernel
theorem dX3_jump_45 : decode cX3_jump 45 = .ok (.getfield 12, 3) := by decide +kernel
theorem dX3_jump_48 : decode cX3_jump 48 = .ok (.iload_n 1, 1) := by decide +kernel
theorem dX3_jump_49 : decode cX3_jump 49 = .ok (.invokevirtual 93, 3) := by decide +kernel
theorem dX3_jump_52 : decode cX3_jump 52 = .ok (.iload_n 2, 1) := by decide +kernel
theorem dX3_jump_53 : decode cX3_jump 53 = .ok (.iadd, 1) := by decide +kernel
theorem dX3_jump_54 : decode cX3_jump 54 = .ok (.istore_n 3, 1) := by decide +kernel
theorem dX3_jump_55 : decode cX3_jump 55 = .ok (.iload_n 3, 1) := by decide +kernel
theorem dX3_jump_56 : decode cX3_jump 56 = .ok (.ldc 111, 2) := by decide +kernel
theorem dX3_jump_58 : decode cX3_jump 58 = .ok (.ldc 112, 2) := by decide +kernel
theorem dX3_jump_60 : decode cX3_jump 60 = .ok (.invokestatic 51, 3) := by decide +kernel
theorem dX3_jump_63 : decode cX3_jump 63 = .ok (.ifCond .ne 13, 3) := by decide +kernel
theorem dX3_jump_66 : decode cX3_jump 66 = .ok (.new 70, 3) := by decide +kernel
theorem dX3_jump_69 : decode cX3_jump 69 = .ok (.dup, 1) := by decide +kernel
theorem dX3_jump_70 : decode cX3_jump 70 = .ok (.ldc 113, 2) := by decide +kernel
theorem dX3_jump_72 : decode cX3_jump 72 = .ok (.invokespecial 74, 3) := by decide +kernel
theorem dX3_jump_75 : decode cX3_jump 75 = .ok (.athrow, 1) := by decide +kernel
theorem dX3_jump_76 : decode cX3_jump 76 = .ok (.aload_n 0, 1) := by decide +kernel
theorem dX3_jump_77 : decode cX3_jump 77 = .ok (.invokevirtual 75, 3) := by decide +kernel
theorem dX3_jump_80 : decode cX3_jump 80 = .ok (.aload_n 0, 1) := by decide +kernel
theorem dX3_jump_81 : decode cX3_jump 81 = .ok (.getfield 12, 3) := by decide +kernel
theorem dX3_jump_84 : decode cX3_jump 84 = .ok (.iload_n 1, 1) := by decide +kernel
theorem dX3_jump_85 : decode cX3_jump 85 = .ok (.iload_n 3, 1) := by decide +kernel
theorem dX3_jump_86 : decode cX3_jump 86 = .ok (.invokevirtual 115, 3) := by decide +kernel
theorem dX3_jump_89 : decode cX3_jump 89 = .ok (.aload_n 0, 1) := by decide +kernel
theorem dX3_jump_90 : decode cX3_jump 90 = .ok (.invokevirtual 82, 3) := by decide +kernel
theorem dX3_jump_93 : decode cX3_jump 93 = .ok (.iload_n 3, 1) := by decide +kernel
theorem dX3_jump_94 : decode cX3_jump 94 = .ok (.ireturn, 1) := by decide +kernel
set_option maxRecDepth 20000 in
theorem ggX3_swap_X3_isSlot : GoodIn wsX3_swap wsX3_isSlot := goodIn_r _ [8, 9, 10, 7, 11] (by decide +kernel) (by decide +kernel)
set_option maxRecDepth 20000 in
theorem gX3_swap_X3_isSlot : GoodIn wsX3_swap (va_wsS RX3 118 yX3_isSlot wsX3_isSlot) := goodIn_app (goodIn_of _ (by decide +kernel)) ggX3_swap_X3_isSlot
set_option maxRecDepth 20000 in
theorem ggX3_swap_X3_save : GoodIn wsX3_swap wsX3_save := goodIn_r _ [15, 16, 17, 4, 18, 19, 20, 7, 21, 22, 23, 24, 25, 26, 27, 28, 29, 30, 31, 32, 33, 34, 35, 117, 118, 119, 120, 121, 122, 123, 124, 125, 126, 127, 128, 129, 130, 131, 132] (by decide +kernel) (by decide +kernel)
set_option maxRecDepth 20000 in
theorem gX3_swap_X3_save : GoodIn wsX3_swap (wsV RX3 75 RX3 yX3_save wsX3_save) := goodIn_app (goodIn_of _ (by decide +kernel)) ggX3_swap_X3_save
set_option maxRecDepth 20000 in
theorem ggX3_swap_X3_winnerOf : GoodIn wsX3_swap wsX3_winnerOf := goodIn_r _ [39, 40, 41, 42, 7, 43, 44, 45, 46, 47, 48, 49, 50, 51, 52, 53, 54, 55, 56, 117, 118, 119, 120, 121, 122, 123, 124, 133, 134, 135, 136, 137, 138] (by decide +kernel) (by decide +kernel)
set_option maxRecDepth 20000 in
theorem gX3_swap_X3_winnerOf : GoodIn wsX3_swap (wsV RX3 123 RX3 yX3_winnerOf wsX3_winnerOf) := goodIn_app (goodIn_of _ (by decide +kernel)) ggX3_swap_X3_winnerOf
set_option maxRecDepth 20000 in
theorem ggX3_swap_X1_exchange : GoodIn wsX3_swap wsX1_exchange := goodIn_r _ [60, 28, 29, 30, 31, 6, 7, 8, 9, 10, 11, 61, 62, 26, 63, 125, 126, 127, 128, 129, 130, 131, 132] (by decide +kernel) (by decide +kernel)
set_option maxRecDepth 20000 in
theorem gX3_swap_X1_exchange : GoodIn wsX3_swap (wsV RX3 126 RX1 yX1_exchange wsX1_exchange) := goodIn_app (goodIn_of _ (by decide +kernel)) ggX3_swap_X1_exchange
set_option maxRecDepth 20000 in
theorem ggX3_swap_X3_foresee : GoodIn wsX3_swap wsX3_foresee := goodIn_r _ [67, 4, 40, 41, 42, 7, 43, 44, 45, 68, 69, 70, 49, 71, 56, 72, 73, 74, 75, 76, 26, 77, 78, 79, 80, 81, 28, 82, 83, 84, 85, 30, 86, 87, 88, 89, 90, 91, 92, 93, 29, 94, 95, 96, 97, 34, 98, 99, 100, 101, 51, 102, 103, 104, 105, 106, 107, 108, 109, 110, 111, 112, 113, 114, 115, 116, 117, 118, 119, 120, 121, 122, 123, 124, 133, 134, 135, 136, 137, 138, 125, 126, 127, 128, 129, 130, 131, 132] (by decide +kernel) (by decide +kernel)
set_option maxRecDepth 20000 in
theorem gX3_swap_X3_foresee : GoodIn wsX3_swap (wsV RX3 82 RX3 yX3_foresee wsX3_foresee) := goodIn_app (goodIn_of _ (by decide +kernel)) ggX3_swap_X3_foresee
theorem dX3_swap_0 : decode cX3_swap 0 = .ok (.iload_n 1, 1) := by decide +kernel
theorem dX3_swap_1 : decode cX3_swap 1 = .ok (.invokestatic 118, 3) := by decide +kernel
theorem dX3_swap_4 : decode cX3_swap 4 = .ok (.ifCond .eq 10, 3) := by decide +kernel
theorem dX3_swap_7 : decode cX3_swap 7 = .ok (.iload_n 2, 1) := by decide +kernel
theorem dX3_swap_8 : decode cX3_swap 8 = .ok (.invokestatic 118, 3) := by decide +kernel
theorem dX3_swap_11 : decode cX3_swap 11 = .ok (.ifCond .ne 13, 3) := by decide +kernel
theorem dX3_swap_14 : decode cX3_swap 14 = .ok (.new 88, 3) := by decide +kernel
theorem dX3_swap_17 : decode cX3_swap 17 = .ok (.dup, 1) := by decide +kernel
theorem dX3_swap_18 : decode cX3_swap 18 = .ok (.ldc 121, 2) := by decide +kernel
theorem dX3_swap_20 : decode cX3_swap 20 = .ok (.invokespecial 92, 3) := by decide +kernel
theorem dX3_swap_23 : decode cX3_swap 23 = .ok (.athrow, 1) := by decide +kernel
theorem dX3_swap_24 : decode cX3_swap 24 = .ok (.aload_n 0, 1) := by decide +kernel
theorem dX3_swap_25 : decode cX3_swap 25 = .ok (.invokevirtual 75, 3) := by decide +kernel
theorem dX3_swap_28 : decode cX3_swap 28 = .ok (.iconst 1, 1) := by decide +kernel
theorem dX3_swap_29 : decode cX3_swap 29 = .ok (.istore_n 3, 1) := by decide +kernel
theorem dX3_swap_30 : decode cX3_swap 30 = .ok (.iload_n 3, 1) := by decide +kernel
theorem dX3_swap_31 : decode cX3_swap 31 = .ok (.bipush 15, 2) := by decide +kernel
theorem dX3_swap_33 : decode cX3_swap 33 = .ok (.if_icmp .gt 20, 3) := by decide +kernel
theorem dX3_swap_36 : decode cX3_swap 36 = .ok (.aload_n 0, 1) := by decide +kernel
theorem dX3_swap_37 : decode cX3_swap 37 = .ok (.getfield 40, 3) := by decide +kernel
theorem dX3_swap_40 : decode cX3_swap 40 = .ok (.iload_n 3, 1) := by decide +kernel
theorem dX3_swap_41 : decode cX3_swap 41 = .ok (.aload_n 0, 1) := by decide +kernel
theorem dX3_swap_42 : decode cX3_swap 42 = .ok (.iload_n 3, 1) := by decide +kernel
theorem dX3_swap_43 : decode cX3_swap 43 = .ok (.invokevirtual 123, 3) := by decide +kernel
theorem dX3_swap_46 : decode cX3_swap 46 = .ok (.iastore, 1) := by decide +kernel
theorem dX3_swap_47 : decode cX3_swap 47 = .ok (.iinc 3 1, 3) := by decide +kernel
theorem dX3_swap_50 : decode cX3_swap 50 = .ok (.goto (-20), 3) := by decide +kernel
theorem dX3_swap_53 : decode cX3_swap 53 = .ok (.aload_n 0, 1) := by decide +kernel
theorem dX3_swap_54 : decode cX3_swap 54 = .ok (.getfield 12, 3) := by decide +kernel
theorem dX3_swap_57 : decode cX3_swap 57 = .ok (.iload_n 1, 1) := by decide +kernel
theorem dX3_swap_58 : decode cX3_swap 58 = .ok (.iload_n 2, 1) := by decide +kernel
theorem dX3_swap_59 : decode cX3_swap 59 = .ok (.invokevirtual 126, 3) := by decide +kernel
theorem dX3_swap_62 : decode cX3_swap 62 = .ok (.aload_n 0, 1) := by decide +kernel
theorem dX3_swap_63 : decode cX3_swap 63 = .ok (.invokevirtual 82, 3) := by decide +kernel
theorem dX3_swap_66 : decode cX3_swap 66 = .ok (.iconst 0, 1) := by decide +kernel
theorem dX3_swap_67 : decode cX3_swap 67 = .ok (.istore_n 3, 1) := by decide +kernel
theorem dX3_swap_68 : decode cX3_swap 68 = .ok (.iconst 1, 1) := by decide +kernel
theorem dX3_swap_69 : decode cX3_swap 69 = .ok (.istore 4, 2) := by decide +kernel
theorem dX3_swap_71 : decode cX3_swap 71 = .ok (.iload 4, 2) := by decide +kernel
theorem dX3_swap_73 : decode cX3_swap 73 = .ok (.bipush 15, 2) := by decide +kernel
theorem dX3_swap_75 : decode cX3_swap 75 = .ok (.if_icmp .gt 56, 3) := by decide +kernel
theorem dX3_swap_78 : decode cX3_swap 78 = .ok (.aload_n 0, 1) := by decide +kernel
theorem dX3_swap_79 : decode cX3_swap 79 = .ok (.getfield 40, 3) := by decide +kernel
theorem dX3_swap_82 : decode cX3_swap 82 = .ok (.iload 4, 2) := by decide +kernel
theorem dX3_swap_84 : decode cX3_swap 84 = .ok (.iaload, 1) := by decide +kernel
theorem dX3_swap_85 : decode cX3_swap 85 = .ok (.istore 5, 2) := by decide +kernel
theorem dX3_swap_87 : decode cX3_swap 87 = .ok (.iload 5, 2) := by decide +kernel
theorem dX3_swap_89 : decode cX3_swap 89 = .ok (.iload_n 1, 1) := by decide +kernel
theorem dX3_swap_90 : decode cX3_swap 90 = .ok (.if_icmp .ne 7, 3) := by decide +kernel
theorem dX3_swap_93 : decode cX3_swap 93 = .ok (.iload_n 2, 1) := by decide +kernel
theorem dX3_swap_94 : decode cX3_swap 94 = .ok (.goto 15, 3) := by decide +kernel
theorem dX3_swap_97 : decode cX3_swap 97 = .ok (.iload 5, 2) := by decide +kernel
theorem dX3_swap_99 : decode cX3_swap 99 = .ok (.iload_n 2, 1) := by decide +kernel
theorem dX3_swap_100 : decode cX3_swap 100 = .ok (.if_icmp .ne 7, 3) := by decide +kernel
theorem dX3_swap_103 : decode cX3_swap 103 = .ok (.iload_n 1, 1) := by decide +kernel
theorem dX3_swap_104 : decode cX3_swap 104 = .ok (.goto 5, 3) := by decide +kernel
theorem dX3_swap_107 : decode cX3_swap 107 = .ok (.iload 5, 2) := by decide +kernel
theorem dX3_swap_109 : decode cX3_swap 109 = .ok (.istore 6, 2) := by decide +kernel
theorem dX3_swap_111 : decode cX3_swap 111 = .ok (.aload_n 0, 1) := by decide +kernel
theorem dX3_swap_112 : decode cX3_swap 112 = .ok (.iload 4, 2) := by decide +kernel
theorem dX3_swap_114 : decode cX3_swap 114 = .ok (.invokevirtual 123, 3) := by decide +kernel
theorem dX3_swap_117 : decode cX3_swap 117 = .ok (.iload 6, 2) := by decide +kernel
theorem dX3_swap_119 : decode cX3_swap 119 = .ok (.if_icmp .eq 6, 3) := by decide +kernel
theorem dX3_swap_122 : decode cX3_swap 122 = .ok (.iinc 3 1, 3) := by decide +kernel
theorem dX3_swap_125 : decode cX3_swap 125 = .ok (.iinc 4 1, 3) := by decide +kernel
theorem dX3_swap_128 : decode cX3_swap 128 = .ok (.goto (-57), 3) := by decide +kernel
theorem dX3_swap_131 : decode cX3_swap 131 = .ok (.iload_n 3, 1) := by decide +kernel
theorem dX3_swap_132 : decode cX3_swap 132 = .ok (.ireturn, 1) := by decide +kernel
set_option maxRecDepth 20000 in
theorem ggX3_pass_X3_isWithin : GoodIn wsX3_pass wsX3_isWithin := goodIn_r _ [10] (by decide +kernel) (by decide +kernel)
set_option maxRecDepth 20000 in
theorem gX3_pass_X3_isWithin : GoodIn wsX3_pass (va_wsS RX3 51 yX3_isWithin wsX3_isWithin) := goodIn_app (goodIn_of _ (by decide +kernel)) ggX3_pass_X3_isWithin
set_option maxRecDepth 20000 in
theorem ggX3_pass_X3_letPass : GoodIn wsX3_pass wsX3_letPass := goodIn_r _ [14, 5, 15, 16, 17, 9, 18, 19, 20, 21, 22, 23, 24, 25, 26, 27, 28, 29, 30, 31, 32, 33, 34, 35, 36, 37, 38, 39, 40, 41, 42, 43, 44, 45, 46, 47, 48, 49, 50, 51, 52, 53, 54, 55, 56, 8, 10, 57, 58, 59, 60, 61, 62, 63, 64, 65, 66, 67, 68, 69, 70, 71, 72, 73, 74, 75, 76, 77, 78, 79, 80, 81, 82, 83, 84, 85, 86, 87, 88, 89, 90, 91, 92, 93, 94, 95, 96, 97, 98, 99, 100, 101, 102, 103, 104, 105, 106, 107, 108, 109, 110, 111, 112, 113, 114, 115, 116, 117, 118, 119, 120, 121, 122, 123, 124, 125, 126, 127, 128, 129, 130, 131, 132, 133, 134] (by decide +kernel) (by decide +kernel)
set_option maxRecDepth 20000 in
theorem gX3_pass_X3_letPass : GoodIn wsX3_pass (wsV RX3 134 RX3 yX3_letPass wsX3_letPass) := goodIn_app (goodIn_of _ (by decide +kernel)) ggX3_pass_X3_letPass
theorem dX3_pass_0 : decode cX3_pass 0 = .ok (.iload_n 1, 1) := by decide +kernel
theorem dX3_pass_1 : decode cX3_pass 1 = .ok (.iconst 1, 1) := by decide +kernel
theorem dX3_pass_2 : decode cX3_pass 2 = .ok (.bipush 99, 2) := by decide +kernel
theorem dX3_pass_4 : decode cX3_pass 4 = .ok (.invokestatic 51, 3) := by decide +kernel
theorem dX3_pass_7 : decode cX3_pass 7 = .ok (.ifCond .ne 13, 3) := by decide +kernel
theorem dX3_pass_10 : decode cX3_pass 10 = .ok (.new 59, 3) := by decide +kernel
theorem dX3_pass_13 : decode cX3_pass 13 = .ok (.dup, 1) := by decide +kernel
theorem dX3_pass_14 : decode cX3_pass 14 = .ok (.ldc 109, 2) := by decide +kernel
theorem dX3_pass_16 : decode cX3_pass 16 = .ok (.invokespecial 63, 3) := by decide +kernel
theorem dX3_pass_19 : decode cX3_pass 19 = .ok (.athrow, 1) := by decide +kernel
theorem dX3_pass_20 : decode cX3_pass 20 = .ok (.aload_n 0, 1) := by decide +kernel
theorem dX3_pass_21 : decode cX3_pass 21 = .ok (.getfield 12, 3) := by decide +kernel
theorem dX3_pass_24 : decode cX3_pass 24 = .ok (.getfield 129, 3) := by decide +kernel
theorem dX3_pass_27 : decode cX3_pass 27 = .ok (.iload_n 1, 1) := by decide +kernel
theorem dX3_pass_28 : decode cX3_pass 28 = .ok (.iadd, 1) := by decide +kernel
theorem dX3_pass_29 : decode cX3_pass 29 = .ok (.sipush 9999, 3) := by decide +kernel
theorem dX3_pass_32 : decode cX3_pass 32 = .ok (.if_icmp .le 13, 3) := by decide +kernel
theorem dX3_pass_35 : decode cX3_pass 35 = .ok (.new 70, 3) := by decide +kernel
theorem dX3_pass_38 : decode cX3_pass 38 = .ok (.dup, 1) := by decide +kernel
theorem dX3_pass_39 : decode cX3_pass 39 = .ok (.ldc 132, 2) := by decide +kernel
theorem dX3_pass_41 : decode cX3_pass 41 = .ok (.invokespecial 74, 3) := by decide +kernel
theorem dX3_pass_44 : decode cX3_pass 44 = .ok (.athrow, 1) := by decide +kernel
theorem dX3_pass_45 : decode cX3_pass 45 = .ok (.aload_n 0, 1) := by decide +kernel
theorem dX3_pass_46 : decode cX3_pass 46 = .ok (.iload_n 1, 1) := by decide +kernel
theorem dX3_pass_47 : decode cX3_pass 47 = .ok (.invokevirtual 134, 3) := by decide +kernel
theorem dX3_pass_50 : decode cX3_pass 50 = .ok (.ireturn, 1) := by decide +kernel
set_option maxRecDepth 20000 in
theorem ggX3_set_X3_isWithin : GoodIn wsX3_set wsX3_isWithin := goodIn_r _ [11] (by decide +kernel) (by decide +kernel)
set_option maxRecDepth 20000 in
theorem gX3_set_X3_isWithin : GoodIn wsX3_set (va_wsS RX3 51 yX3_isWithin wsX3_isWithin) := goodIn_app (goodIn_of _ (by decide +kernel)) ggX3_set_X3_isWithin
set_option maxRecDepth 20000 in
theorem ggX3_set_X3_save : GoodIn wsX3_set wsX3_save := goodIn_r _ [15, 16, 17, 5, 18, 19, 20, 10, 21, 22, 23, 24, 25, 26, 27, 28, 29, 30, 31, 32, 33, 34, 35, 102, 103, 104, 105, 106, 107, 108, 109, 110, 111, 112, 113, 114, 115, 116, 117] (by decide +kernel) (by decide +kernel)
set_option maxRecDepth 20000 in
theorem gX3_set_X3_save : GoodIn wsX3_set (wsV RX3 75 RX3 yX3_save wsX3_save) := goodIn_app (goodIn_of _ (by decide +kernel)) ggX3_set_X3_save
set_option maxRecDepth 20000 in
theorem ggX3_set_X3_setting : GoodIn wsX3_set wsX3_setting := goodIn_ca (goodIn_r _ [39, 1, 2, 5, 6, 7, 102, 103, 104, 105, 106, 107, 108, 109, 110, 111, 112, 113, 114, 115, 116, 117] (by decide +kernel) (by decide +kernel)) (goodIn_sub (fun _ h => List.mem_cons_of_mem _ (List.mem_append_left _ (List.mem_append_right _ h))) (by decide +kernel))
set_option maxRecDepth 20000 in
theorem gX3_set_X3_setting : GoodIn wsX3_set (wsV RX3 153 RX3 yX3_setting wsX3_setting) := goodIn_app (goodIn_of _ (by decide +kernel)) ggX3_set_X3_setting
set_option maxRecDepth 20000 in
theorem ggX3_set_X3_foresee : GoodIn wsX3_set wsX3_foresee := goodIn_r _ [43, 5, 44, 45, 46, 10, 47, 48, 49, 50, 51, 52, 53, 54, 55, 56, 57, 58, 59, 60, 26, 61, 62, 63, 64, 65, 28, 66, 67, 68, 69, 30, 70, 71, 72, 73, 74, 75, 76, 77, 29, 78, 79, 80, 81, 34, 82, 83, 84, 85, 86, 87, 88, 89, 90, 91, 92, 93, 94, 95, 96, 97, 98, 99, 100, 101, 102, 103, 104, 105, 106, 107, 108, 109, 118, 119, 120, 121, 122, 123, 110, 111, 112, 113, 114, 115, 116, 117] (by decide +kernel) (by decide +kernel)
set_option maxRecDepth 20000 in
theorem gX3_set_X3_foresee : GoodIn wsX3_set (wsV RX3 82 RX3 yX3_foresee wsX3_foresee) := goodIn_app (goodIn_of _ (by decide +kernel)) ggX3_set_X3_foresee
theorem dX3_set_0 : decode cX3_set 0 = .ok (.iload_n 1, 1) := by decide +kernel
theorem dX3_set_1 : decode cX3_set 1 = .ok (.ifCond .eq 18, 3) := by decide +kernel
theorem dX3_set_4 : decode cX3_set 4 = .ok (.iload_n 1, 1) := by decide +kernel
theorem dX3_set_5 : decode cX3_set 5 = .ok (.iconst 1, 1) := by decide +kernel
theorem dX3_set_6 : decode cX3_set 6 = .ok (.if_icmp .eq 13, 3) := by decide +kernel
theorem dX3_set_9 : decode cX3_set 9 = .ok (.new 88, 3) := by decide +kernel
theorem dX3_set_12 : decode cX3_set 12 = .ok (.dup, 1) := by decide +kernel
theorem dX3_set_13 : decode cX3_set 13 = .ok (.ldc 149, 2) := by decide +kernel
theorem dX3_set_15 : decode cX3_set 15 = .ok (.invokespecial 92, 3) := by decide +kernel
theorem dX3_set_18 : decode cX3_set 18 = .ok (.athrow, 1) := by decide +kernel
theorem dX3_set_19 : decode cX3_set 19 = .ok (.iload_n 1, 1) := by decide +kernel
theorem dX3_set_20 : decode cX3_set 20 = .ok (.ifCond .ne 12, 3) := by decide +kernel
theorem dX3_set_23 : decode cX3_set 23 = .ok (.iload_n 2, 1) := by decide +kernel
theorem dX3_set_24 : decode cX3_set 24 = .ok (.iconst 0, 1) := by decide +kernel
theorem dX3_set_25 : decode cX3_set 25 = .ok (.iconst 1, 1) := by decide +kernel
theorem dX3_set_26 : decode cX3_set 26 = .ok (.invokestatic 51, 3) := by decide +kernel
theorem dX3_set_29 : decode cX3_set 29 = .ok (.goto 11, 3) := by decide +kernel
theorem dX3_set_32 : decode cX3_set 32 = .ok (.iload_n 2, 1) := by decide +kernel
theorem dX3_set_33 : decode cX3_set 33 = .ok (.iconst 1, 1) := by decide +kernel
theorem dX3_set_34 : decode cX3_set 34 = .ok (.sipush 999, 3) := by decide +kernel
theorem dX3_set_37 : decode cX3_set 37 = .ok (.invokestatic 51, 3) := by decide +kernel
theorem dX3_set_40 : decode cX3_set 40 = .ok (.istore_n 3, 1) := by decide +kernel
theorem dX3_set_41 : decode cX3_set 41 = .ok (.iload_n 3, 1) := by decide +kernel
theorem dX3_set_42 : decode cX3_set 42 = .ok (.ifCond .ne 13, 3) := by decide +kernel
theorem dX3_set_45 : decode cX3_set 45 = .ok (.new 59, 3) := by decide +kernel
theorem dX3_set_48 : decode cX3_set 48 = .ok (.dup, 1) := by decide +kernel
theorem dX3_set_49 : decode cX3_set 49 = .ok (.ldc 151, 2) := by decide +kernel
theorem dX3_set_51 : decode cX3_set 51 = .ok (.invokespecial 63, 3) := by decide +kernel
theorem dX3_set_54 : decode cX3_set 54 = .ok (.athrow, 1) := by decide +kernel
theorem dX3_set_55 : decode cX3_set 55 = .ok (.aload_n 0, 1) := by decide +kernel
theorem dX3_set_56 : decode cX3_set 56 = .ok (.invokevirtual 75, 3) := by decide +kernel
theorem dX3_set_59 : decode cX3_set 59 = .ok (.aload_n 0, 1) := by decide +kernel
theorem dX3_set_60 : decode cX3_set 60 = .ok (.iload_n 1, 1) := by decide +kernel
theorem dX3_set_61 : decode cX3_set 61 = .ok (.invokevirtual 153, 3) := by decide +kernel
theorem dX3_set_64 : decode cX3_set 64 = .ok (.istore 4, 2) := by decide +kernel
theorem dX3_set_66 : decode cX3_set 66 = .ok (.iload_n 1, 1) := by decide +kernel
theorem dX3_set_67 : decode cX3_set 67 = .ok (.ifCond .ne 14, 3) := by decide +kernel
theorem dX3_set_70 : decode cX3_set 70 = .ok (.aload_n 0, 1) := by decide +kernel
theorem dX3_set_71 : decode cX3_set 71 = .ok (.getfield 12, 3) := by decide +kernel
theorem dX3_set_74 : decode cX3_set 74 = .ok (.iload_n 2, 1) := by decide +kernel
theorem dX3_set_75 : decode cX3_set 75 = .ok (.putfield 156, 3) := by decide +kernel
theorem dX3_set_78 : decode cX3_set 78 = .ok (.goto 11, 3) := by decide +kernel
theorem dX3_set_81 : decode cX3_set 81 = .ok (.aload_n 0, 1) := by decide +kernel
theorem dX3_set_82 : decode cX3_set 82 = .ok (.getfield 12, 3) := by decide +kernel
theorem dX3_set_85 : decode cX3_set 85 = .ok (.iload_n 2, 1) := by decide +kernel
theorem dX3_set_86 : decode cX3_set 86 = .ok (.putfield 159, 3) := by decide +kernel
theorem dX3_set_89 : decode cX3_set 89 = .ok (.aload_n 0, 1) := by decide +kernel
theorem dX3_set_90 : decode cX3_set 90 = .ok (.invokevirtual 82, 3) := by decide +kernel
theorem dX3_set_93 : decode cX3_set 93 = .ok (.iload 4, 2) := by decide +kernel
theorem dX3_set_95 : decode cX3_set 95 = .ok (.ireturn, 1) := by decide +kernel
set_option maxRecDepth 20000 in
theorem ggX3_mover_X1_has : GoodIn wsX3_mover wsX1_has := goodIn_r _ [12, 13, 95, 96, 97, 98, 99, 100, 101, 102] (by decide +kernel) (by decide +kernel)
set_option maxRecDepth 20000 in
theorem gX3_mover_X1_has : GoodIn wsX3_mover (wsV RX3 85 RX1 yX1_has wsX1_has) := goodIn_app (goodIn_of _ (by decide +kernel)) ggX3_mover_X1_has
set_option maxRecDepth 20000 in
theorem ggX3_mover_X1_valueOf : GoodIn wsX3_mover wsX1_valueOf := goodIn_r _ [17, 18, 95, 96, 97, 98, 99, 100, 101, 102] (by decide +kernel) (by decide +kernel)
set_option maxRecDepth 20000 in
theorem gX3_mover_X1_valueOf : GoodIn wsX3_mover (wsV RX3 93 RX1 yX1_valueOf wsX1_valueOf) := goodIn_app (goodIn_of _ (by decide +kernel)) ggX3_mover_X1_valueOf
set_option maxRecDepth 20000 in
theorem ggX3_mover_X1_speedOf : GoodIn wsX3_mover wsX1_speedOf := goodIn_r _ [22, 23, 95, 96, 97, 98, 99, 100, 101, 102] (by decide +kernel) (by decide +kernel)
set_option maxRecDepth 20000 in
theorem gX3_mover_X1_speedOf : GoodIn wsX3_mover (wsV RX3 103 RX1 yX1_speedOf wsX1_speedOf) := goodIn_app (goodIn_of _ (by decide +kernel)) ggX3_mover_X1_speedOf
set_option maxRecDepth 20000 in
theorem ggX3_mover_X1_rankOf : GoodIn wsX3_mover wsX1_rankOf := goodIn_r _ [27, 13, 28, 29, 30, 11, 31, 32, 20, 21, 22, 23, 33, 34, 35, 36, 37, 15, 16, 17, 18, 38, 39, 40, 41, 42, 95, 96, 97, 98, 99, 100, 101, 102] (by decide +kernel) (by decide +kernel)
set_option maxRecDepth 20000 in
theorem gX3_mover_X1_rankOf : GoodIn wsX3_mover (wsV RX3 207 RX1 yX1_rankOf wsX1_rankOf) := goodIn_app (goodIn_of _ (by decide +kernel)) ggX3_mover_X1_rankOf
set_option maxRecDepth 20000 in
theorem ggX3_mover_X3_winsOf : GoodIn wsX3_mover wsX3_winsOf := goodIn_r _ [47, 48, 49, 50, 46, 51, 52, 53, 54, 55, 6, 56, 57, 58, 59, 60, 61, 62, 63, 64, 65, 66, 67, 87, 88, 89, 90, 91, 92, 93, 94, 103, 104, 105, 106, 107, 108] (by decide +kernel) (by decide +kernel)
set_option maxRecDepth 20000 in
theorem gX3_mover_X3_winsOf : GoodIn wsX3_mover (wsV RX3 210 RX3 yX3_winsOf wsX3_winsOf) := goodIn_app (goodIn_of _ (by decide +kernel)) ggX3_mover_X3_winsOf
set_option maxRecDepth 20000 in
theorem ggX3_mover_X0_rowOf : GoodIn wsX3_mover wsX0_rowOf := goodIn_r _ [71, 67, 62, 103, 104, 105, 106, 107, 108] (by decide +kernel) (by decide +kernel)
set_option maxRecDepth 20000 in
theorem gX3_mover_X0_rowOf : GoodIn wsX3_mover (wsV RX3 213 RX0 yX0_rowOf wsX0_rowOf) := goodIn_app (goodIn_of _ (by decide +kernel)) ggX3_mover_X0_rowOf
set_option maxRecDepth 20000 in
theorem ggX3_mover_X0_numerator : GoodIn wsX3_mover wsX0_numerator := goodIn_r _ [75, 76, 77, 63, 64, 65, 60, 66, 67, 103, 104, 105, 106, 107, 108] (by decide +kernel) (by decide +kernel)
set_option maxRecDepth 20000 in
theorem gX3_mover_X0_numerator : GoodIn wsX3_mover (wsV RX3 216 RX0 yX0_numerator wsX0_numerator) := goodIn_app (goodIn_of _ (by decide +kernel)) ggX3_mover_X0_numerator
set_option maxRecDepth 20000 in
theorem ggX3_mover_X0_denominator : GoodIn wsX3_mover wsX0_denominator := goodIn_r _ [81, 76, 63, 64, 65, 60, 66, 67, 103, 104, 105, 106, 107, 108] (by decide +kernel) (by decide +kernel)
set_option maxRecDepth 20000 in
theorem gX3_mover_X0_denominator : GoodIn wsX3_mover (wsV RX3 220 RX0 yX0_denominator wsX0_denominator) := goodIn_app (goodIn_of _ (by decide +kernel)) ggX3_mover_X0_denominator
set_option maxRecDepth 20000 in
theorem ggX3_mover_X1_addedAtOf : GoodIn wsX3_mover wsX1_addedAtOf := goodIn_r _ [85, 86, 95, 96, 97, 98, 99, 100, 101, 102] (by decide +kernel) (by decide +kernel)
set_option maxRecDepth 20000 in
theorem gX3_mover_X1_addedAtOf : GoodIn wsX3_mover (wsV RX3 223 RX1 yX1_addedAtOf wsX1_addedAtOf) := goodIn_app (goodIn_of _ (by decide +kernel)) ggX3_mover_X1_addedAtOf
theorem dX3_mover_0 : decode cX3_mover 0 = .ok (.aload_n 0, 1) := by decide +kernel
theorem dX3_mover_1 : decode cX3_mover 1 = .ok (.getfield 12, 3) := by decide +kernel
theorem dX3_mover_4 : decode cX3_mover 4 = .ok (.iload_n 1, 1) := by decide +kernel
theorem dX3_mover_5 : decode cX3_mover 5 = .ok (.invokevirtual 85, 3) := by decide +kernel
theorem dX3_mover_8 : decode cX3_mover 8 = .ok (.ifCond .ne 13, 3) := by decide +kernel
theorem dX3_mover_11 : decode cX3_mover 11 = .ok (.new 88, 3) := by decide +kernel
theorem dX3_mover_14 : decode cX3_mover 14 = .ok (.dup, 1) := by decide +kernel
theorem dX3_mover_15 : decode cX3_mover 15 = .ok (.ldc 90, 2) := by decide +kernel
theorem dX3_mover_17 : decode cX3_mover 17 = .ok (.invokespecial 92, 3) := by decide +kernel
theorem dX3_mover_20 : decode cX3_mover 20 = .ok (.athrow, 1) := by decide +kernel
theorem dX3_mover_21 : decode cX3_mover 21 = .ok (.iload_n 2, 1) := by decide +kernel
theorem dX3_mover_22 : decode cX3_mover 22 = .ok (.tableswitch 123 0 6 #[42, 51, 60, 69, 75, 98, 114], 42) := by decide +kernel
theorem dX3_mover_64 : decode cX3_mover 64 = .ok (.aload_n 0, 1) := by decide +kernel
theorem dX3_mover_65 : decode cX3_mover 65 = .ok (.getfield 12, 3) := by decide +kernel
theorem dX3_mover_68 : decode cX3_mover 68 = .ok (.iload_n 1, 1) := by decide +kernel
theorem dX3_mover_69 : decode cX3_mover 69 = .ok (.invokevirtual 93, 3) := by decide +kernel
theorem dX3_mover_72 : decode cX3_mover 72 = .ok (.ireturn, 1) := by decide +kernel
theorem dX3_mover_73 : decode cX3_mover 73 = .ok (.aload_n 0, 1) := by decide +kernel
theorem dX3_mover_74 : decode cX3_mover 74 = .ok (.getfield 12, 3) := by decide +kernel
theorem dX3_mover_77 : decode cX3_mover 77 = .ok (.iload_n 1, 1) := by decide +kernel
theorem dX3_mover_78 : decode cX3_mover 78 = .ok (.invokevirtual 103, 3) := by decide +kernel
theorem dX3_mover_81 : decode cX3_mover 81 = .ok (.ireturn, 1) := by decide +kernel
theorem dX3_mover_82 : decode cX3_mover 82 = .ok (.aload_n 0, 1) := by decide +kernel
theorem dX3_mover_83 : decode cX3_mover 83 = .ok (.getfield 12, 3) := by decide +kernel
theorem dX3_mover_86 : decode cX3_mover 86 = .ok (.iload_n 1, 1) := by decide +kernel
theorem dX3_mover_87 : decode cX3_mover 87 = .ok (.invokevirtual 207, 3) := by decide +kernel
theorem dX3_mover_90 : decode cX3_mover 90 = .ok (.ireturn, 1) := by decide +kernel
theorem dX3_mover_91 : decode cX3_mover 91 = .ok (.aload_n 0, 1) := by decide +kernel
theorem dX3_mover_92 : decode cX3_mover 92 = .ok (.iload_n 1, 1) := by decide +kernel
theorem dX3_mover_93 : decode cX3_mover 93 = .ok (.invokevirtual 210, 3) := by decide +kernel
theorem dX3_mover_96 : decode cX3_mover 96 = .ok (.ireturn, 1) := by decide +kernel
theorem dX3_mover_97 : decode cX3_mover 97 = .ok (.aload_n 0, 1) := by decide +kernel
theorem dX3_mover_98 : decode cX3_mover 98 = .ok (.getfield 32, 3) := by decide +kernel
theorem dX3_mover_101 : decode cX3_mover 101 = .ok (.aload_n 0, 1) := by decide +kernel
theorem dX3_mover_102 : decode cX3_mover 102 = .ok (.getfield 32, 3) := by decide +kernel
theorem dX3_mover_105 : decode cX3_mover 105 = .ok (.iload_n 1, 1) := by decide +kernel
theorem dX3_mover_106 : decode cX3_mover 106 = .ok (.invokevirtual 213, 3) := by decide +kernel
theorem dX3_mover_109 : decode cX3_mover 109 = .ok (.aload_n 0, 1) := by decide +kernel
theorem dX3_mover_110 : decode cX3_mover 110 = .ok (.getfield 12, 3) := by decide +kernel
theorem dX3_mover_113 : decode cX3_mover 113 = .ok (.getfield 129, 3) := by decide +kernel
theorem dX3_mover_116 : decode cX3_mover 116 = .ok (.invokevirtual 216, 3) := by decide +kernel
theorem dX3_mover_119 : decode cX3_mover 119 = .ok (.ireturn, 1) := by decide +kernel
theorem dX3_mover_120 : decode cX3_mover 120 = .ok (.aload_n 0, 1) := by decide +kernel
theorem dX3_mover_121 : decode cX3_mover 121 = .ok (.getfield 32, 3) := by decide +kernel
theorem dX3_mover_124 : decode cX3_mover 124 = .ok (.aload_n 0, 1) := by decide +kernel
theorem dX3_mover_125 : decode cX3_mover 125 = .ok (.getfield 32, 3) := by decide +kernel
theorem dX3_mover_128 : decode cX3_mover 128 = .ok (.iload_n 1, 1) := by decide +kernel
theorem dX3_mover_129 : decode cX3_mover 129 = .ok (.invokevirtual 213, 3) := by decide +kernel
theorem dX3_mover_132 : decode cX3_mover 132 = .ok (.invokevirtual 220, 3) := by decide +kernel
theorem dX3_mover_135 : decode cX3_mover 135 = .ok (.ireturn, 1) := by decide +kernel
theorem dX3_mover_136 : decode cX3_mover 136 = .ok (.aload_n 0, 1) := by decide +kernel
theorem dX3_mover_137 : decode cX3_mover 137 = .ok (.getfield 12, 3) := by decide +kernel
theorem dX3_mover_140 : decode cX3_mover 140 = .ok (.iload_n 1, 1) := by decide +kernel
theorem dX3_mover_141 : decode cX3_mover 141 = .ok (.invokevirtual 223, 3) := by decide +kernel
theorem dX3_mover_144 : decode cX3_mover 144 = .ok (.ireturn, 1) := by decide +kernel
theorem dX3_mover_145 : decode cX3_mover 145 = .ok (.new 59, 3) := by decide +kernel
theorem dX3_mover_148 : decode cX3_mover 148 = .ok (.dup, 1) := by decide +kernel
theorem dX3_mover_149 : decode cX3_mover 149 = .ok (.ldc 226, 2) := by decide +kernel
theorem dX3_mover_151 : decode cX3_mover 151 = .ok (.invokespecial 63, 3) := by decide +kernel
theorem dX3_mover_154 : decode cX3_mover 154 = .ok (.athrow, 1) := by decide +kernel
set_option maxRecDepth 20000 in
theorem ggX3_contest_X3_isWithin : GoodIn wsX3_contest wsX3_isWithin := goodIn_r _ [10] (by decide +kernel) (by decide +kernel)
set_option maxRecDepth 20000 in
theorem gX3_contest_X3_isWithin : GoodIn wsX3_contest (va_wsS RX3 51 yX3_isWithin wsX3_isWithin) := goodIn_app (goodIn_of _ (by decide +kernel)) ggX3_contest_X3_isWithin
set_option maxRecDepth 20000 in
theorem ggX3_contest_X3_courseOf : GoodIn wsX3_contest wsX3_courseOf := goodIn_r _ [14, 15, 16, 61, 62, 63, 64, 65, 66, 67, 68] (by decide +kernel) (by decide +kernel)
set_option maxRecDepth 20000 in
theorem gX3_contest_X3_courseOf : GoodIn wsX3_contest (wsV RX3 142 RX3 yX3_courseOf wsX3_courseOf) := goodIn_app (goodIn_of _ (by decide +kernel)) ggX3_contest_X3_courseOf
set_option maxRecDepth 20000 in
theorem ggX3_contest_X0_winnerIn : GoodIn wsX3_contest wsX0_winnerIn := goodIn_r _ [21, 22, 23, 24, 25, 20, 26, 27, 77, 78, 79, 80, 81, 82] (by decide +kernel) (by decide +kernel)
set_option maxRecDepth 20000 in
theorem gX3_contest_X0_winnerIn : GoodIn wsX3_contest (wsV RX3 230 RX0 yX0_winnerIn wsX0_winnerIn) := goodIn_app (goodIn_of _ (by decide +kernel)) ggX3_contest_X0_winnerIn
set_option maxRecDepth 20000 in
theorem ggX3_contest_X3_loserOf : GoodIn wsX3_contest wsX3_loserOf := goodIn_r _ [31, 32, 33, 34, 9, 35, 5, 36, 37, 38, 39, 11, 12, 13, 14, 15, 16, 17, 18, 19, 20, 21, 22, 23, 24, 25, 26, 27, 40, 41, 42, 43, 44, 45, 61, 62, 63, 64, 65, 66, 67, 68, 77, 78, 79, 80, 81, 82, 69, 70, 71, 72, 73, 74, 75, 76] (by decide +kernel) (by decide +kernel)
set_option maxRecDepth 20000 in
theorem gX3_contest_X3_loserOf : GoodIn wsX3_contest (wsV RX3 233 RX3 yX3_loserOf wsX3_loserOf) := goodIn_app (goodIn_of _ (by decide +kernel)) ggX3_contest_X3_loserOf
set_option maxRecDepth 20000 in
theorem ggX3_contest_X0_numerator : GoodIn wsX3_contest wsX0_numerator := goodIn_r _ [49, 50, 51, 23, 24, 25, 20, 26, 27, 77, 78, 79, 80, 81, 82] (by decide +kernel) (by decide +kernel)
set_option maxRecDepth 20000 in
theorem gX3_contest_X0_numerator : GoodIn wsX3_contest (wsV RX3 216 RX0 yX0_numerator wsX0_numerator) := goodIn_app (goodIn_of _ (by decide +kernel)) ggX3_contest_X0_numerator
set_option maxRecDepth 20000 in
theorem ggX3_contest_X0_denominator : GoodIn wsX3_contest wsX0_denominator := goodIn_r _ [55, 50, 23, 24, 25, 20, 26, 27, 77, 78, 79, 80, 81, 82] (by decide +kernel) (by decide +kernel)
set_option maxRecDepth 20000 in
theorem gX3_contest_X0_denominator : GoodIn wsX3_contest (wsV RX3 220 RX0 yX0_denominator wsX0_denominator) := goodIn_app (goodIn_of _ (by decide +kernel)) ggX3_contest_X0_denominator
set_option maxRecDepth 20000 in
theorem ggX3_contest_X1_turnedOf : GoodIn wsX3_contest wsX1_turnedOf := goodIn_r _ [59, 60, 8, 9, 10, 69, 70, 71, 72, 73, 74, 75, 76] (by decide +kernel) (by decide +kernel)
