theorem dX4_set_59 : decode cX4_set 59 = .ok (.getfield 7, 3) := by decide +kernel
theorem dX4_set_62 : decode cX4_set 62 = .ok (.iconst 1, 1) := by decide +kernel
theorem dX4_set_63 : decode cX4_set 63 = .ok (.iload_n 1, 1) := by decide +kernel
theorem dX4_set_64 : decode cX4_set 64 = .ok (.iadd, 1) := by decide +kernel
theorem dX4_set_65 : decode cX4_set 65 = .ok (.iload_n 2, 1) := by decide +kernel
theorem dX4_set_66 : decode cX4_set 66 = .ok (.iastore, 1) := by decide +kernel
theorem dX4_set_67 : decode cX4_set 67 = .ok (.iload_n 3, 1) := by decide +kernel
theorem dX4_set_68 : decode cX4_set 68 = .ok (.ireturn, 1) := by decide +kernel
set_option maxRecDepth 20000 in
theorem ggX4_append_X4_in : GoodIn wsX4_append wsX4_in := goodIn_r _ [7] (by decide +kernel) (by decide +kernel)
set_option maxRecDepth 20000 in
theorem gX4_append_X4_in : GoodIn wsX4_append (va_wsS RX4 45 yX4_in wsX4_in) := goodIn_app (goodIn_of _ (by decide +kernel)) ggX4_append_X4_in
set_option maxRecDepth 20000 in
theorem ggX4_append_X4_fails : GoodIn wsX4_append wsX4_fails := goodIn_r _ [11, 1, 12, 13, 14, 15, 16, 17, 18, 19, 20, 21, 22, 23, 24, 25, 26, 27, 28, 29, 30, 31, 32, 33] (by decide +kernel) (by decide +kernel)
set_option maxRecDepth 20000 in
theorem gX4_append_X4_fails : GoodIn wsX4_append (wsV RX4 102 RX4 yX4_fails wsX4_fails) := goodIn_app (goodIn_of _ (by decide +kernel)) ggX4_append_X4_fails
theorem dX4_append_0 : decode cX4_append 0 = .ok (.aload_n 0, 1) := by decide +kernel
theorem dX4_append_1 : decode cX4_append 1 = .ok (.iconst 0, 1) := by decide +kernel
theorem dX4_append_2 : decode cX4_append 2 = .ok (.putfield 34, 3) := by decide +kernel
theorem dX4_append_5 : decode cX4_append 5 = .ok (.iload_n 1, 1) := by decide +kernel
theorem dX4_append_6 : decode cX4_append 6 = .ok (.bipush 33, 2) := by decide +kernel
theorem dX4_append_8 : decode cX4_append 8 = .ok (.bipush 126, 2) := by decide +kernel
theorem dX4_append_10 : decode cX4_append 10 = .ok (.invokestatic 45, 3) := by decide +kernel
theorem dX4_append_13 : decode cX4_append 13 = .ok (.ifCond .ne 9, 3) := by decide +kernel
theorem dX4_append_16 : decode cX4_append 16 = .ok (.aload_n 0, 1) := by decide +kernel
theorem dX4_append_17 : decode cX4_append 17 = .ok (.iconst 1, 1) := by decide +kernel
theorem dX4_append_18 : decode cX4_append 18 = .ok (.invokevirtual 102, 3) := by decide +kernel
theorem dX4_append_21 : decode cX4_append 21 = .ok (.ireturn, 1) := by decide +kernel
theorem dX4_append_22 : decode cX4_append 22 = .ok (.aload_n 0, 1) := by decide +kernel
theorem dX4_append_23 : decode cX4_append 23 = .ok (.getfield 134, 3) := by decide +kernel
theorem dX4_append_26 : decode cX4_append 26 = .ok (.bipush 60, 2) := by decide +kernel
theorem dX4_append_28 : decode cX4_append 28 = .ok (.if_icmp .ne 9, 3) := by decide +kernel
theorem dX4_append_31 : decode cX4_append 31 = .ok (.aload_n 0, 1) := by decide +kernel
theorem dX4_append_32 : decode cX4_append 32 = .ok (.iconst 2, 1) := by decide +kernel
theorem dX4_append_33 : decode cX4_append 33 = .ok (.invokevirtual 102, 3) := by decide +kernel
theorem dX4_append_36 : decode cX4_append 36 = .ok (.ireturn, 1) := by decide +kernel
theorem dX4_append_37 : decode cX4_append 37 = .ok (.aload_n 0, 1) := by decide +kernel
theorem dX4_append_38 : decode cX4_append 38 = .ok (.getfield 16, 3) := by decide +kernel
theorem dX4_append_41 : decode cX4_append 41 = .ok (.aload_n 0, 1) := by decide +kernel
theorem dX4_append_42 : decode cX4_append 42 = .ok (.getfield 134, 3) := by decide +kernel
theorem dX4_append_45 : decode cX4_append 45 = .ok (.iload_n 1, 1) := by decide +kernel
theorem dX4_append_46 : decode cX4_append 46 = .ok (.iastore, 1) := by decide +kernel
theorem dX4_append_47 : decode cX4_append 47 = .ok (.aload_n 0, 1) := by decide +kernel
theorem dX4_append_48 : decode cX4_append 48 = .ok (.dup, 1) := by decide +kernel
theorem dX4_append_49 : decode cX4_append 49 = .ok (.getfield 134, 3) := by decide +kernel
theorem dX4_append_52 : decode cX4_append 52 = .ok (.iconst 1, 1) := by decide +kernel
theorem dX4_append_53 : decode cX4_append 53 = .ok (.iadd, 1) := by decide +kernel
theorem dX4_append_54 : decode cX4_append 54 = .ok (.putfield 134, 3) := by decide +kernel
theorem dX4_append_57 : decode cX4_append 57 = .ok (.aload_n 0, 1) := by decide +kernel
theorem dX4_append_58 : decode cX4_append 58 = .ok (.getfield 134, 3) := by decide +kernel
theorem dX4_append_61 : decode cX4_append 61 = .ok (.ireturn, 1) := by decide +kernel
theorem dX4_clearBuffer_0 : decode cX4_clearBuffer 0 = .ok (.aload_n 0, 1) := by decide +kernel
theorem dX4_clearBuffer_1 : decode cX4_clearBuffer 1 = .ok (.iconst 0, 1) := by decide +kernel
theorem dX4_clearBuffer_2 : decode cX4_clearBuffer 2 = .ok (.putfield 34, 3) := by decide +kernel
theorem dX4_clearBuffer_5 : decode cX4_clearBuffer 5 = .ok (.aload_n 0, 1) := by decide +kernel
theorem dX4_clearBuffer_6 : decode cX4_clearBuffer 6 = .ok (.getfield 134, 3) := by decide +kernel
theorem dX4_clearBuffer_9 : decode cX4_clearBuffer 9 = .ok (.istore_n 1, 1) := by decide +kernel
theorem dX4_clearBuffer_10 : decode cX4_clearBuffer 10 = .ok (.aload_n 0, 1) := by decide +kernel
theorem dX4_clearBuffer_11 : decode cX4_clearBuffer 11 = .ok (.iconst 0, 1) := by decide +kernel
theorem dX4_clearBuffer_12 : decode cX4_clearBuffer 12 = .ok (.putfield 134, 3) := by decide +kernel
theorem dX4_clearBuffer_15 : decode cX4_clearBuffer 15 = .ok (.iload_n 1, 1) := by decide +kernel
theorem dX4_clearBuffer_16 : decode cX4_clearBuffer 16 = .ok (.ireturn, 1) := by decide +kernel
theorem dX4_next_0 : decode cX4_next 0 = .ok (.aload_n 0, 1) := by decide +kernel
theorem dX4_next_1 : decode cX4_next 1 = .ok (.getfield 137, 3) := by decide +kernel
theorem dX4_next_4 : decode cX4_next 4 = .ok (.aload_n 0, 1) := by decide +kernel
theorem dX4_next_5 : decode cX4_next 5 = .ok (.getfield 134, 3) := by decide +kernel
theorem dX4_next_8 : decode cX4_next 8 = .ok (.if_icmp .ge 15, 3) := by decide +kernel
theorem dX4_next_11 : decode cX4_next 11 = .ok (.aload_n 0, 1) := by decide +kernel
theorem dX4_next_12 : decode cX4_next 12 = .ok (.getfield 16, 3) := by decide +kernel
theorem dX4_next_15 : decode cX4_next 15 = .ok (.aload_n 0, 1) := by decide +kernel
theorem dX4_next_16 : decode cX4_next 16 = .ok (.getfield 137, 3) := by decide +kernel
theorem dX4_next_19 : decode cX4_next 19 = .ok (.iaload, 1) := by decide +kernel
theorem dX4_next_20 : decode cX4_next 20 = .ok (.goto 4, 3) := by decide +kernel
theorem dX4_next_23 : decode cX4_next 23 = .ok (.iconst 0, 1) := by decide +kernel
theorem dX4_next_24 : decode cX4_next 24 = .ok (.ireturn, 1) := by decide +kernel
set_option maxRecDepth 20000 in
theorem ggX4_takes_X4_next : GoodIn wsX4_takes wsX4_next := goodIn_r _ [6, 1, 7, 8, 9, 10, 11, 12, 13, 14, 15, 16, 17, 18, 19, 20, 21, 22, 23, 24, 25, 26, 27, 28, 29, 30] (by decide +kernel) (by decide +kernel)
set_option maxRecDepth 20000 in
theorem gX4_takes_X4_next : GoodIn wsX4_takes (wsV RX4 140 RX4 yX4_next wsX4_next) := goodIn_app (goodIn_of _ (by decide +kernel)) ggX4_takes_X4_next
theorem dX4_takes_0 : decode cX4_takes 0 = .ok (.aload_n 0, 1) := by decide +kernel
theorem dX4_takes_1 : decode cX4_takes 1 = .ok (.invokevirtual 140, 3) := by decide +kernel
theorem dX4_takes_4 : decode cX4_takes 4 = .ok (.iload_n 1, 1) := by decide +kernel
theorem dX4_takes_5 : decode cX4_takes 5 = .ok (.if_icmp .ne 7, 3) := by decide +kernel
theorem dX4_takes_8 : decode cX4_takes 8 = .ok (.iconst 1, 1) := by decide +kernel
theorem dX4_takes_9 : decode cX4_takes 9 = .ok (.goto 4, 3) := by decide +kernel
theorem dX4_takes_12 : decode cX4_takes 12 = .ok (.iconst 0, 1) := by decide +kernel
theorem dX4_takes_13 : decode cX4_takes 13 = .ok (.istore_n 2, 1) := by decide +kernel
theorem dX4_takes_14 : decode cX4_takes 14 = .ok (.aload_n 0, 1) := by decide +kernel
theorem dX4_takes_15 : decode cX4_takes 15 = .ok (.dup, 1) := by decide +kernel
theorem dX4_takes_16 : decode cX4_takes 16 = .ok (.getfield 137, 3) := by decide +kernel
theorem dX4_takes_19 : decode cX4_takes 19 = .ok (.iload_n 2, 1) := by decide +kernel
theorem dX4_takes_20 : decode cX4_takes 20 = .ok (.ifCond .eq 7, 3) := by decide +kernel
theorem dX4_takes_23 : decode cX4_takes 23 = .ok (.iconst 1, 1) := by decide +kernel
theorem dX4_takes_24 : decode cX4_takes 24 = .ok (.goto 4, 3) := by decide +kernel
theorem dX4_takes_27 : decode cX4_takes 27 = .ok (.iconst 0, 1) := by decide +kernel
theorem dX4_takes_28 : decode cX4_takes 28 = .ok (.iadd, 1) := by decide +kernel
theorem dX4_takes_29 : decode cX4_takes 29 = .ok (.putfield 137, 3) := by decide +kernel
theorem dX4_takes_32 : decode cX4_takes 32 = .ok (.iload_n 2, 1) := by decide +kernel
theorem dX4_takes_33 : decode cX4_takes 33 = .ok (.ireturn, 1) := by decide +kernel
set_option maxRecDepth 20000 in
theorem ggX4_number_X4_next : GoodIn wsX4_number wsX4_next := goodIn_r _ [6, 1, 7, 8, 12, 13, 14, 15, 16, 17, 18, 19, 20, 21, 22, 23, 24, 25, 26, 27, 28, 29, 30, 31, 32, 33] (by decide +kernel) (by decide +kernel)
set_option maxRecDepth 20000 in
theorem gX4_number_X4_next : GoodIn wsX4_number (wsV RX4 140 RX4 yX4_next wsX4_next) := goodIn_app (goodIn_of _ (by decide +kernel)) ggX4_number_X4_next
set_option maxRecDepth 20000 in
theorem ggX4_number_X4_in : GoodIn wsX4_number wsX4_in := goodIn_r _ [11] (by decide +kernel) (by decide +kernel)
set_option maxRecDepth 20000 in
theorem gX4_number_X4_in : GoodIn wsX4_number (va_wsS RX4 45 yX4_in wsX4_in) := goodIn_app (goodIn_of _ (by decide +kernel)) ggX4_number_X4_in
theorem dX4_number_0 : decode cX4_number 0 = .ok (.iconst (-1), 1) := by decide +kernel
theorem dX4_number_1 : decode cX4_number 1 = .ok (.istore_n 2, 1) := by decide +kernel
theorem dX4_number_2 : decode cX4_number 2 = .ok (.iconst 1, 1) := by decide +kernel
theorem dX4_number_3 : decode cX4_number 3 = .ok (.istore_n 3, 1) := by decide +kernel
theorem dX4_number_4 : decode cX4_number 4 = .ok (.iload_n 3, 1) := by decide +kernel
theorem dX4_number_5 : decode cX4_number 5 = .ok (.ifCond .eq 94, 3) := by decide +kernel
theorem dX4_number_8 : decode cX4_number 8 = .ok (.aload_n 0, 1) := by decide +kernel
theorem dX4_number_9 : decode cX4_number 9 = .ok (.invokevirtual 140, 3) := by decide +kernel
theorem dX4_number_12 : decode cX4_number 12 = .ok (.bipush 48, 2) := by decide +kernel
theorem dX4_number_14 : decode cX4_number 14 = .ok (.isub, 1) := by decide +kernel
theorem dX4_number_15 : decode cX4_number 15 = .ok (.istore 4, 2) := by decide +kernel
theorem dX4_number_17 : decode cX4_number 17 = .ok (.iload_n 2, 1) := by decide +kernel
theorem dX4_number_18 : decode cX4_number 18 = .ok (.iconst (-1), 1) := by decide +kernel
theorem dX4_number_19 : decode cX4_number 19 = .ok (.if_icmp .ne 8, 3) := by decide +kernel
theorem dX4_number_22 : decode cX4_number 22 = .ok (.iload 4, 2) := by decide +kernel
theorem dX4_number_24 : decode cX4_number 24 = .ok (.goto 10, 3) := by decide +kernel
theorem dX4_number_27 : decode cX4_number 27 = .ok (.bipush 10, 2) := by decide +kernel
theorem dX4_number_29 : decode cX4_number 29 = .ok (.iload_n 2, 1) := by decide +kernel
theorem dX4_number_30 : decode cX4_number 30 = .ok (.imul, 1) := by decide +kernel
theorem dX4_number_31 : decode cX4_number 31 = .ok (.iload 4, 2) := by decide +kernel
theorem dX4_number_33 : decode cX4_number 33 = .ok (.iadd, 1) := by decide +kernel
theorem dX4_number_34 : decode cX4_number 34 = .ok (.istore 5, 2) := by decide +kernel
theorem dX4_number_36 : decode cX4_number 36 = .ok (.iload 4, 2) := by decide +kernel
theorem dX4_number_38 : decode cX4_number 38 = .ok (.iconst 0, 1) := by decide +kernel
theorem dX4_number_39 : decode cX4_number 39 = .ok (.bipush 9, 2) := by decide +kernel
theorem dX4_number_41 : decode cX4_number 41 = .ok (.invokestatic 45, 3) := by decide +kernel
theorem dX4_number_44 : decode cX4_number 44 = .ok (.ifCond .eq 21, 3) := by decide +kernel
theorem dX4_number_47 : decode cX4_number 47 = .ok (.iload_n 2, 1) := by decide +kernel
theorem dX4_number_48 : decode cX4_number 48 = .ok (.ifCond .eq 17, 3) := by decide +kernel
theorem dX4_number_51 : decode cX4_number 51 = .ok (.iload 5, 2) := by decide +kernel
theorem dX4_number_53 : decode cX4_number 53 = .ok (.iconst 0, 1) := by decide +kernel
theorem dX4_number_54 : decode cX4_number 54 = .ok (.iload_n 1, 1) := by decide +kernel
theorem dX4_number_55 : decode cX4_number 55 = .ok (.invokestatic 45, 3) := by decide +kernel
theorem dX4_number_58 : decode cX4_number 58 = .ok (.ifCond .eq 7, 3) := by decide +kernel
theorem dX4_number_61 : decode cX4_number 61 = .ok (.iconst 1, 1) := by decide +kernel
theorem dX4_number_62 : decode cX4_number 62 = .ok (.goto 4, 3) := by decide +kernel
theorem dX4_number_65 : decode cX4_number 65 = .ok (.iconst 0, 1) := by decide +kernel
theorem dX4_number_66 : decode cX4_number 66 = .ok (.istore_n 3, 1) := by decide +kernel
theorem dX4_number_67 : decode cX4_number 67 = .ok (.iload_n 3, 1) := by decide +kernel
theorem dX4_number_68 : decode cX4_number 68 = .ok (.ifCond .eq 8, 3) := by decide +kernel
theorem dX4_number_71 : decode cX4_number 71 = .ok (.iload 5, 2) := by decide +kernel
theorem dX4_number_73 : decode cX4_number 73 = .ok (.goto 4, 3) := by decide +kernel
theorem dX4_number_76 : decode cX4_number 76 = .ok (.iload_n 2, 1) := by decide +kernel
theorem dX4_number_77 : decode cX4_number 77 = .ok (.istore_n 2, 1) := by decide +kernel
theorem dX4_number_78 : decode cX4_number 78 = .ok (.aload_n 0, 1) := by decide +kernel
theorem dX4_number_79 : decode cX4_number 79 = .ok (.dup, 1) := by decide +kernel
theorem dX4_number_80 : decode cX4_number 80 = .ok (.getfield 137, 3) := by decide +kernel
theorem dX4_number_83 : decode cX4_number 83 = .ok (.iload_n 3, 1) := by decide +kernel
theorem dX4_number_84 : decode cX4_number 84 = .ok (.ifCond .eq 7, 3) := by decide +kernel
theorem dX4_number_87 : decode cX4_number 87 = .ok (.iconst 1, 1) := by decide +kernel
theorem dX4_number_88 : decode cX4_number 88 = .ok (.goto 4, 3) := by decide +kernel
theorem dX4_number_91 : decode cX4_number 91 = .ok (.iconst 0, 1) := by decide +kernel
theorem dX4_number_92 : decode cX4_number 92 = .ok (.iadd, 1) := by decide +kernel
theorem dX4_number_93 : decode cX4_number 93 = .ok (.putfield 137, 3) := by decide +kernel
theorem dX4_number_96 : decode cX4_number 96 = .ok (.goto (-92), 3) := by decide +kernel
theorem dX4_number_99 : decode cX4_number 99 = .ok (.iload_n 2, 1) := by decide +kernel
theorem dX4_number_100 : decode cX4_number 100 = .ok (.ireturn, 1) := by decide +kernel
set_option maxRecDepth 20000 in
theorem ggX4_isOne_X4_takes : GoodIn wsX4_isOne wsX4_takes := goodIn_r _ [7, 8, 9, 10, 11, 6, 12, 13, 14, 22, 23, 24, 25, 26, 27, 28, 29, 30, 31, 32, 33, 34, 35, 36, 37, 38, 39, 40, 41, 42, 43] (by decide +kernel) (by decide +kernel)
set_option maxRecDepth 20000 in
theorem gX4_isOne_X4_takes : GoodIn wsX4_isOne (wsV RX4 146 RX4 yX4_takes wsX4_takes) := goodIn_app (goodIn_of _ (by decide +kernel)) ggX4_isOne_X4_takes
set_option maxRecDepth 20000 in
theorem ggX4_isOne_X4_number : GoodIn wsX4_isOne wsX4_number := goodIn_r _ [18, 8, 9, 10, 11, 6, 12, 13, 14, 19, 20, 21, 22, 23, 24, 25, 26, 27, 28, 29, 30, 31, 32, 33, 34, 35, 36, 37, 38, 39, 40, 41, 42, 43] (by decide +kernel) (by decide +kernel)
set_option maxRecDepth 20000 in
theorem gX4_isOne_X4_number : GoodIn wsX4_isOne (wsV RX4 149 RX4 yX4_number wsX4_number) := goodIn_app (goodIn_of _ (by decide +kernel)) ggX4_isOne_X4_number
theorem dX4_isOne_0 : decode cX4_isOne 0 = .ok (.iconst 2, 1) := by decide +kernel
theorem dX4_isOne_1 : decode cX4_isOne 1 = .ok (.aload_n 0, 1) := by decide +kernel
theorem dX4_isOne_2 : decode cX4_isOne 2 = .ok (.getfield 143, 3) := by decide +kernel
theorem dX4_isOne_5 : decode cX4_isOne 5 = .ok (.imul, 1) := by decide +kernel
theorem dX4_isOne_6 : decode cX4_isOne 6 = .ok (.istore_n 1, 1) := by decide +kernel
theorem dX4_isOne_7 : decode cX4_isOne 7 = .ok (.aload_n 0, 1) := by decide +kernel
theorem dX4_isOne_8 : decode cX4_isOne 8 = .ok (.dup, 1) := by decide +kernel
theorem dX4_isOne_9 : decode cX4_isOne 9 = .ok (.getfield 143, 3) := by decide +kernel
theorem dX4_isOne_12 : decode cX4_isOne 12 = .ok (.iconst 1, 1) := by decide +kernel
theorem dX4_isOne_13 : decode cX4_isOne 13 = .ok (.iadd, 1) := by decide +kernel
theorem dX4_isOne_14 : decode cX4_isOne 14 = .ok (.putfield 143, 3) := by decide +kernel
theorem dX4_isOne_17 : decode cX4_isOne 17 = .ok (.aload_n 0, 1) := by decide +kernel
theorem dX4_isOne_18 : decode cX4_isOne 18 = .ok (.bipush 45, 2) := by decide +kernel
theorem dX4_isOne_20 : decode cX4_isOne 20 = .ok (.invokevirtual 146, 3) := by decide +kernel
theorem dX4_isOne_23 : decode cX4_isOne 23 = .ok (.istore_n 2, 1) := by decide +kernel
theorem dX4_isOne_24 : decode cX4_isOne 24 = .ok (.aload_n 0, 1) := by decide +kernel
theorem dX4_isOne_25 : decode cX4_isOne 25 = .ok (.sipush 9999, 3) := by decide +kernel
theorem dX4_isOne_28 : decode cX4_isOne 28 = .ok (.invokevirtual 149, 3) := by decide +kernel
theorem dX4_isOne_31 : decode cX4_isOne 31 = .ok (.istore_n 3, 1) := by decide +kernel
theorem dX4_isOne_32 : decode cX4_isOne 32 = .ok (.aload_n 0, 1) := by decide +kernel
theorem dX4_isOne_33 : decode cX4_isOne 33 = .ok (.getfield 22, 3) := by decide +kernel
theorem dX4_isOne_36 : decode cX4_isOne 36 = .ok (.iload_n 1, 1) := by decide +kernel
theorem dX4_isOne_37 : decode cX4_isOne 37 = .ok (.iload_n 2, 1) := by decide +kernel
theorem dX4_isOne_38 : decode cX4_isOne 38 = .ok (.ifCond .eq 8, 3) := by decide +kernel
theorem dX4_isOne_41 : decode cX4_isOne 41 = .ok (.iload_n 3, 1) := by decide +kernel
theorem dX4_isOne_42 : decode cX4_isOne 42 = .ok (.ineg, 1) := by decide +kernel
theorem dX4_isOne_43 : decode cX4_isOne 43 = .ok (.goto 4, 3) := by decide +kernel
theorem dX4_isOne_46 : decode cX4_isOne 46 = .ok (.iload_n 3, 1) := by decide +kernel
theorem dX4_isOne_47 : decode cX4_isOne 47 = .ok (.iastore, 1) := by decide +kernel
theorem dX4_isOne_48 : decode cX4_isOne 48 = .ok (.iload_n 3, 1) := by decide +kernel
theorem dX4_isOne_49 : decode cX4_isOne 49 = .ok (.iconst (-1), 1) := by decide +kernel
theorem dX4_isOne_50 : decode cX4_isOne 50 = .ok (.if_icmp .ne 5, 3) := by decide +kernel
theorem dX4_isOne_53 : decode cX4_isOne 53 = .ok (.iconst 0, 1) := by decide +kernel
theorem dX4_isOne_54 : decode cX4_isOne 54 = .ok (.ireturn, 1) := by decide +kernel
theorem dX4_isOne_55 : decode cX4_isOne 55 = .ok (.aload_n 0, 1) := by decide +kernel
theorem dX4_isOne_56 : decode cX4_isOne 56 = .ok (.bipush 45, 2) := by decide +kernel
theorem dX4_isOne_58 : decode cX4_isOne 58 = .ok (.invokevirtual 146, 3) := by decide +kernel
theorem dX4_isOne_61 : decode cX4_isOne 61 = .ok (.istore 4, 2) := by decide +kernel
theorem dX4_isOne_63 : decode cX4_isOne 63 = .ok (.iload 4, 2) := by decide +kernel
theorem dX4_isOne_65 : decode cX4_isOne 65 = .ok (.ifCond .ne 14, 3) := by decide +kernel
theorem dX4_isOne_68 : decode cX4_isOne 68 = .ok (.aload_n 0, 1) := by decide +kernel
theorem dX4_isOne_69 : decode cX4_isOne 69 = .ok (.bipush 43, 2) := by decide +kernel
theorem dX4_isOne_71 : decode cX4_isOne 71 = .ok (.invokevirtual 146, 3) := by decide +kernel
theorem dX4_isOne_74 : decode cX4_isOne 74 = .ok (.ifCond .ne 5, 3) := by decide +kernel
theorem dX4_isOne_77 : decode cX4_isOne 77 = .ok (.iconst 0, 1) := by decide +kernel
theorem dX4_isOne_78 : decode cX4_isOne 78 = .ok (.ireturn, 1) := by decide +kernel
theorem dX4_isOne_79 : decode cX4_isOne 79 = .ok (.aload_n 0, 1) := by decide +kernel
theorem dX4_isOne_80 : decode cX4_isOne 80 = .ok (.bipush 99, 2) := by decide +kernel
theorem dX4_isOne_82 : decode cX4_isOne 82 = .ok (.invokevirtual 149, 3) := by decide +kernel
theorem dX4_isOne_85 : decode cX4_isOne 85 = .ok (.istore 5, 2) := by decide +kernel
theorem dX4_isOne_87 : decode cX4_isOne 87 = .ok (.aload_n 0, 1) := by decide +kernel
theorem dX4_isOne_88 : decode cX4_isOne 88 = .ok (.getfield 22, 3) := by decide +kernel
theorem dX4_isOne_91 : decode cX4_isOne 91 = .ok (.iload_n 1, 1) := by decide +kernel
theorem dX4_isOne_92 : decode cX4_isOne 92 = .ok (.iconst 1, 1) := by decide +kernel
theorem dX4_isOne_93 : decode cX4_isOne 93 = .ok (.iadd, 1) := by decide +kernel
theorem dX4_isOne_94 : decode cX4_isOne 94 = .ok (.iload 4, 2) := by decide +kernel
theorem dX4_isOne_96 : decode cX4_isOne 96 = .ok (.ifCond .eq 9, 3) := by decide +kernel
theorem dX4_isOne_99 : decode cX4_isOne 99 = .ok (.iload 5, 2) := by decide +kernel
theorem dX4_isOne_101 : decode cX4_isOne 101 = .ok (.ineg, 1) := by decide +kernel
theorem dX4_isOne_102 : decode cX4_isOne 102 = .ok (.goto 5, 3) := by decide +kernel
theorem dX4_isOne_105 : decode cX4_isOne 105 = .ok (.iload 5, 2) := by decide +kernel
theorem dX4_isOne_107 : decode cX4_isOne 107 = .ok (.iastore, 1) := by decide +kernel
theorem dX4_isOne_108 : decode cX4_isOne 108 = .ok (.iload 5, 2) := by decide +kernel
theorem dX4_isOne_110 : decode cX4_isOne 110 = .ok (.iconst (-1), 1) := by decide +kernel
theorem dX4_isOne_111 : decode cX4_isOne 111 = .ok (.if_icmp .eq 7, 3) := by decide +kernel
theorem dX4_isOne_114 : decode cX4_isOne 114 = .ok (.iconst 1, 1) := by decide +kernel
theorem dX4_isOne_115 : decode cX4_isOne 115 = .ok (.goto 4, 3) := by decide +kernel
theorem dX4_isOne_118 : decode cX4_isOne 118 = .ok (.iconst 0, 1) := by decide +kernel
theorem dX4_isOne_119 : decode cX4_isOne 119 = .ok (.ireturn, 1) := by decide +kernel
set_option maxRecDepth 20000 in
theorem ggX4_isText_X4_isOne : GoodIn wsX4_isText wsX4_isOne := goodIn_r _ [8, 2, 9, 10, 11, 12, 7, 13, 1, 14, 15, 16, 17, 3, 18, 19, 20, 21, 22, 23, 24, 25, 26, 27, 28, 29, 30, 31, 32, 33, 34, 35, 36, 37, 38, 39, 40, 41, 42, 43, 44, 45, 46, 47] (by decide +kernel) (by decide +kernel)
set_option maxRecDepth 20000 in
theorem gX4_isText_X4_isOne : GoodIn wsX4_isText (wsV RX4 152 RX4 yX4_isOne wsX4_isOne) := goodIn_app (goodIn_of _ (by decide +kernel)) ggX4_isText_X4_isOne
set_option maxRecDepth 20000 in
theorem ggX4_isText_X4_takes : GoodIn wsX4_isText wsX4_takes := goodIn_r _ [13, 1, 14, 15, 16, 7, 17, 3, 18, 26, 27, 28, 29, 30, 31, 32, 33, 34, 35, 36, 37, 38, 39, 40, 41, 42, 43, 44, 45, 46, 47] (by decide +kernel) (by decide +kernel)
set_option maxRecDepth 20000 in
theorem gX4_isText_X4_takes : GoodIn wsX4_isText (wsV RX4 146 RX4 yX4_takes wsX4_takes) := goodIn_app (goodIn_of _ (by decide +kernel)) ggX4_isText_X4_takes
theorem dX4_isText_0 : decode cX4_isText 0 = .ok (.aload_n 0, 1) := by decide +kernel
theorem dX4_isText_1 : decode cX4_isText 1 = .ok (.iconst 0, 1) := by decide +kernel
theorem dX4_isText_2 : decode cX4_isText 2 = .ok (.putfield 137, 3) := by decide +kernel
theorem dX4_isText_5 : decode cX4_isText 5 = .ok (.aload_n 0, 1) := by decide +kernel
theorem dX4_isText_6 : decode cX4_isText 6 = .ok (.iconst 0, 1) := by decide +kernel
theorem dX4_isText_7 : decode cX4_isText 7 = .ok (.putfield 143, 3) := by decide +kernel
theorem dX4_isText_10 : decode cX4_isText 10 = .ok (.aload_n 0, 1) := by decide +kernel
theorem dX4_isText_11 : decode cX4_isText 11 = .ok (.invokevirtual 152, 3) := by decide +kernel
theorem dX4_isText_14 : decode cX4_isText 14 = .ok (.istore_n 1, 1) := by decide +kernel
theorem dX4_isText_15 : decode cX4_isText 15 = .ok (.iload_n 1, 1) := by decide +kernel
theorem dX4_isText_16 : decode cX4_isText 16 = .ok (.ifCond .eq 20, 3) := by decide +kernel
theorem dX4_isText_19 : decode cX4_isText 19 = .ok (.aload_n 0, 1) := by decide +kernel
theorem dX4_isText_20 : decode cX4_isText 20 = .ok (.bipush 59, 2) := by decide +kernel
theorem dX4_isText_22 : decode cX4_isText 22 = .ok (.invokevirtual 146, 3) := by decide +kernel
theorem dX4_isText_25 : decode cX4_isText 25 = .ok (.ifCond .eq 11, 3) := by decide +kernel
theorem dX4_isText_28 : decode cX4_isText 28 = .ok (.aload_n 0, 1) := by decide +kernel
theorem dX4_isText_29 : decode cX4_isText 29 = .ok (.invokevirtual 152, 3) := by decide +kernel
theorem dX4_isText_32 : decode cX4_isText 32 = .ok (.istore_n 1, 1) := by decide +kernel
theorem dX4_isText_33 : decode cX4_isText 33 = .ok (.goto (-18), 3) := by decide +kernel
theorem dX4_isText_36 : decode cX4_isText 36 = .ok (.iload_n 1, 1) := by decide +kernel
theorem dX4_isText_37 : decode cX4_isText 37 = .ok (.ifCond .eq 18, 3) := by decide +kernel
theorem dX4_isText_40 : decode cX4_isText 40 = .ok (.aload_n 0, 1) := by decide +kernel
theorem dX4_isText_41 : decode cX4_isText 41 = .ok (.getfield 137, 3) := by decide +kernel
theorem dX4_isText_44 : decode cX4_isText 44 = .ok (.aload_n 0, 1) := by decide +kernel
theorem dX4_isText_45 : decode cX4_isText 45 = .ok (.getfield 134, 3) := by decide +kernel
theorem dX4_isText_48 : decode cX4_isText 48 = .ok (.if_icmp .ne 7, 3) := by decide +kernel
theorem dX4_isText_51 : decode cX4_isText 51 = .ok (.iconst 1, 1) := by decide +kernel
theorem dX4_isText_52 : decode cX4_isText 52 = .ok (.goto 4, 3) := by decide +kernel
theorem dX4_isText_55 : decode cX4_isText 55 = .ok (.iconst 0, 1) := by decide +kernel
theorem dX4_isText_56 : decode cX4_isText 56 = .ok (.ireturn, 1) := by decide +kernel
set_option maxRecDepth 20000 in
theorem ggX4_firstError_X4_isText : GoodIn wsX4_firstError wsX4_isText := goodIn_r _ [8, 3, 9, 2, 10, 11, 12, 7, 13, 14, 15, 16, 17, 18, 19, 20, 21, 22, 23, 24, 25, 26, 27, 28, 29, 30, 31, 32, 33, 34, 35, 36, 37, 38, 39, 40, 41, 42, 43, 44, 45, 46, 47, 48, 49, 50, 51, 52] (by decide +kernel) (by decide +kernel)
set_option maxRecDepth 20000 in
theorem gX4_firstError_X4_isText : GoodIn wsX4_firstError (wsV RX4 156 RX4 yX4_isText wsX4_isText) := goodIn_app (goodIn_of _ (by decide +kernel)) ggX4_firstError_X4_isText
theorem dX4_firstError_0 : decode cX4_firstError 0 = .ok (.aload_n 0, 1) := by decide +kernel
theorem dX4_firstError_1 : decode cX4_firstError 1 = .ok (.iconst 0, 1) := by decide +kernel
theorem dX4_firstError_2 : decode cX4_firstError 2 = .ok (.putfield 34, 3) := by decide +kernel
theorem dX4_firstError_5 : decode cX4_firstError 5 = .ok (.aload_n 0, 1) := by decide +kernel
theorem dX4_firstError_6 : decode cX4_firstError 6 = .ok (.invokevirtual 156, 3) := by decide +kernel
theorem dX4_firstError_9 : decode cX4_firstError 9 = .ok (.ifCond .eq 10, 3) := by decide +kernel
theorem dX4_firstError_12 : decode cX4_firstError 12 = .ok (.aload_n 0, 1) := by decide +kernel
theorem dX4_firstError_13 : decode cX4_firstError 13 = .ok (.getfield 134, 3) := by decide +kernel
theorem dX4_firstError_16 : decode cX4_firstError 16 = .ok (.goto 7, 3) := by decide +kernel
theorem dX4_firstError_19 : decode cX4_firstError 19 = .ok (.aload_n 0, 1) := by decide +kernel
theorem dX4_firstError_20 : decode cX4_firstError 20 = .ok (.getfield 137, 3) := by decide +kernel
theorem dX4_firstError_23 : decode cX4_firstError 23 = .ok (.ireturn, 1) := by decide +kernel
set_option maxRecDepth 20000 in
theorem ggX4_addAll_X4_isText : GoodIn wsX4_addAll wsX4_isText := goodIn_r _ [9, 10, 2, 4, 11, 12, 13, 8, 14, 3, 15, 16, 17, 18, 19, 20, 21, 22, 23, 24, 25, 26, 27, 28, 29, 30, 61, 62, 63, 64, 65, 66, 67, 68, 69, 70, 71, 72, 73, 74, 75, 76, 77, 78, 79, 80, 81, 82] (by decide +kernel) (by decide +kernel)
set_option maxRecDepth 20000 in
theorem gX4_addAll_X4_isText : GoodIn wsX4_addAll (wsV RX4 156 RX4 yX4_isText wsX4_isText) := goodIn_app (goodIn_of _ (by decide +kernel)) ggX4_addAll_X4_isText
set_option maxRecDepth 20000 in
theorem ggX4_addAll_X4_fails : GoodIn wsX4_addAll wsX4_fails := goodIn_r _ [34, 1, 61, 62, 63, 64, 65, 66, 67, 68, 69, 70, 71, 72, 73, 74, 75, 76, 77, 78, 79, 80, 81, 82] (by decide +kernel) (by decide +kernel)
set_option maxRecDepth 20000 in
theorem gX4_addAll_X4_fails : GoodIn wsX4_addAll (wsV RX4 102 RX4 yX4_fails wsX4_fails) := goodIn_app (goodIn_of _ (by decide +kernel)) ggX4_addAll_X4_fails
set_option maxRecDepth 20000 in
theorem ggX4_addAll_X4_movers : GoodIn wsX4_addAll wsX4_movers := goodIn_r _ [38, 39, 40, 41, 8, 42, 61, 62, 63, 64, 65, 66, 67, 68, 69, 70, 71, 72, 73, 74, 75, 76, 77, 78, 79, 80, 81, 82] (by decide +kernel) (by decide +kernel)
set_option maxRecDepth 20000 in
theorem gX4_addAll_X4_movers : GoodIn wsX4_addAll (wsV RX4 159 RX4 yX4_movers wsX4_movers) := goodIn_app (goodIn_of _ (by decide +kernel)) ggX4_addAll_X4_movers
set_option maxRecDepth 20000 in
theorem ggX4_addAll_X4_save : GoodIn wsX4_addAll wsX4_save := goodIn_r _ [46, 47, 48, 39, 61, 62, 63, 64, 65, 66, 67, 68, 69, 70, 71, 72, 73, 74, 75, 76, 77, 78, 79, 80, 81, 82] (by decide +kernel) (by decide +kernel)
set_option maxRecDepth 20000 in
theorem gX4_addAll_X4_save : GoodIn wsX4_addAll (wsV RX4 105 RX4 yX4_save wsX4_save) := goodIn_app (goodIn_of _ (by decide +kernel)) ggX4_addAll_X4_save
set_option maxRecDepth 20000 in
theorem ggX4_addAll_X4_addNow : GoodIn wsX4_addAll wsX4_addNow := goodIn_r _ [52, 39, 53, 54, 55, 8, 56, 57, 58, 59, 60, 40, 41, 42, 61, 62, 63, 64, 65, 66, 67, 68, 69, 70, 71, 72, 73, 74, 75, 76, 77, 78, 79, 80, 81, 82] (by decide +kernel) (by decide +kernel)
set_option maxRecDepth 20000 in
theorem gX4_addAll_X4_addNow : GoodIn wsX4_addAll (wsV RX4 108 RX4 yX4_addNow wsX4_addNow) := goodIn_app (goodIn_of _ (by decide +kernel)) ggX4_addAll_X4_addNow
theorem dX4_addAll_0 : decode cX4_addAll 0 = .ok (.aload_n 0, 1) := by decide +kernel
theorem dX4_addAll_1 : decode cX4_addAll 1 = .ok (.iconst 0, 1) := by decide +kernel
theorem dX4_addAll_2 : decode cX4_addAll 2 = .ok (.putfield 34, 3) := by decide +kernel
theorem dX4_addAll_5 : decode cX4_addAll 5 = .ok (.aload_n 0, 1) := by decide +kernel
theorem dX4_addAll_6 : decode cX4_addAll 6 = .ok (.invokevirtual 156, 3) := by decide +kernel
theorem dX4_addAll_9 : decode cX4_addAll 9 = .ok (.ifCond .ne 9, 3) := by decide +kernel
theorem dX4_addAll_12 : decode cX4_addAll 12 = .ok (.aload_n 0, 1) := by decide +kernel
theorem dX4_addAll_13 : decode cX4_addAll 13 = .ok (.iconst 1, 1) := by decide +kernel
theorem dX4_addAll_14 : decode cX4_addAll 14 = .ok (.invokevirtual 102, 3) := by decide +kernel
theorem dX4_addAll_17 : decode cX4_addAll 17 = .ok (.ireturn, 1) := by decide +kernel
theorem dX4_addAll_18 : decode cX4_addAll 18 = .ok (.aload_n 0, 1) := by decide +kernel
theorem dX4_addAll_19 : decode cX4_addAll 19 = .ok (.invokevirtual 159, 3) := by decide +kernel
theorem dX4_addAll_22 : decode cX4_addAll 22 = .ok (.aload_n 0, 1) := by decide +kernel
theorem dX4_addAll_23 : decode cX4_addAll 23 = .ok (.getfield 143, 3) := by decide +kernel
theorem dX4_addAll_26 : decode cX4_addAll 26 = .ok (.iadd, 1) := by decide +kernel
theorem dX4_addAll_27 : decode cX4_addAll 27 = .ok (.bipush 16, 2) := by decide +kernel
theorem dX4_addAll_29 : decode cX4_addAll 29 = .ok (.if_icmp .le 9, 3) := by decide +kernel
theorem dX4_addAll_32 : decode cX4_addAll 32 = .ok (.aload_n 0, 1) := by decide +kernel
theorem dX4_addAll_33 : decode cX4_addAll 33 = .ok (.iconst 2, 1) := by decide +kernel
theorem dX4_addAll_34 : decode cX4_addAll 34 = .ok (.invokevirtual 102, 3) := by decide +kernel
theorem dX4_addAll_37 : decode cX4_addAll 37 = .ok (.ireturn, 1) := by decide +kernel
theorem dX4_addAll_38 : decode cX4_addAll 38 = .ok (.aload_n 0, 1) := by decide +kernel
theorem dX4_addAll_39 : decode cX4_addAll 39 = .ok (.invokevirtual 105, 3) := by decide +kernel
theorem dX4_addAll_42 : decode cX4_addAll 42 = .ok (.iconst 0, 1) := by decide +kernel
theorem dX4_addAll_43 : decode cX4_addAll 43 = .ok (.istore_n 1, 1) := by decide +kernel
theorem dX4_addAll_44 : decode cX4_addAll 44 = .ok (.iload_n 1, 1) := by decide +kernel
theorem dX4_addAll_45 : decode cX4_addAll 45 = .ok (.aload_n 0, 1) := by decide +kernel
theorem dX4_addAll_46 : decode cX4_addAll 46 = .ok (.getfield 143, 3) := by decide +kernel
theorem dX4_addAll_49 : decode cX4_addAll 49 = .ok (.if_icmp .ge 32, 3) := by decide +kernel
theorem dX4_addAll_52 : decode cX4_addAll 52 = .ok (.aload_n 0, 1) := by decide +kernel
theorem dX4_addAll_53 : decode cX4_addAll 53 = .ok (.aload_n 0, 1) := by decide +kernel
theorem dX4_addAll_54 : decode cX4_addAll 54 = .ok (.getfield 22, 3) := by decide +kernel
theorem dX4_addAll_57 : decode cX4_addAll 57 = .ok (.iconst 2, 1) := by decide +kernel
theorem dX4_addAll_58 : decode cX4_addAll 58 = .ok (.iload_n 1, 1) := by decide +kernel
theorem dX4_addAll_59 : decode cX4_addAll 59 = .ok (.imul, 1) := by decide +kernel
theorem dX4_addAll_60 : decode cX4_addAll 60 = .ok (.iaload, 1) := by decide +kernel
theorem dX4_addAll_61 : decode cX4_addAll 61 = .ok (.aload_n 0, 1) := by decide +kernel
theorem dX4_addAll_62 : decode cX4_addAll 62 = .ok (.getfield 22, 3) := by decide +kernel
theorem dX4_addAll_65 : decode cX4_addAll 65 = .ok (.iconst 2, 1) := by decide +kernel
theorem dX4_addAll_66 : decode cX4_addAll 66 = .ok (.iload_n 1, 1) := by decide +kernel
theorem dX4_addAll_67 : decode cX4_addAll 67 = .ok (.imul, 1) := by decide +kernel
theorem dX4_addAll_68 : decode cX4_addAll 68 = .ok (.iconst 1, 1) := by decide +kernel
theorem dX4_addAll_69 : decode cX4_addAll 69 = .ok (.iadd, 1) := by decide +kernel
theorem dX4_addAll_70 : decode cX4_addAll 70 = .ok (.iaload, 1) := by decide +kernel
theorem dX4_addAll_71 : decode cX4_addAll 71 = .ok (.invokevirtual 108, 3) := by decide +kernel
theorem dX4_addAll_74 : decode cX4_addAll 74 = .ok (.pop, 1) := by decide +kernel
theorem dX4_addAll_75 : decode cX4_addAll 75 = .ok (.iinc 1 1, 3) := by decide +kernel
theorem dX4_addAll_78 : decode cX4_addAll 78 = .ok (.goto (-34), 3) := by decide +kernel
theorem dX4_addAll_81 : decode cX4_addAll 81 = .ok (.aload_n 0, 1) := by decide +kernel
theorem dX4_addAll_82 : decode cX4_addAll 82 = .ok (.iconst 0, 1) := by decide +kernel
theorem dX4_addAll_83 : decode cX4_addAll 83 = .ok (.putfield 134, 3) := by decide +kernel
theorem dX4_addAll_86 : decode cX4_addAll 86 = .ok (.aload_n 0, 1) := by decide +kernel
theorem dX4_addAll_87 : decode cX4_addAll 87 = .ok (.invokevirtual 159, 3) := by decide +kernel
theorem dX4_addAll_90 : decode cX4_addAll 90 = .ok (.ireturn, 1) := by decide +kernel
set_option maxRecDepth 20000 in
theorem ggX4_undo_X4_fails : GoodIn wsX4_undo wsX4_fails := goodIn_r _ [9, 1, 10, 11, 12, 13, 14, 15, 16, 17, 18, 19, 20, 21, 22, 23, 24, 25, 26, 27, 28, 29, 30, 31] (by decide +kernel) (by decide +kernel)
set_option maxRecDepth 20000 in
theorem gX4_undo_X4_fails : GoodIn wsX4_undo (wsV RX4 102 RX4 yX4_fails wsX4_fails) := goodIn_app (goodIn_of _ (by decide +kernel)) ggX4_undo_X4_fails
theorem dX4_undo_0 : decode cX4_undo 0 = .ok (.aload_n 0, 1) := by decide +kernel
theorem dX4_undo_1 : decode cX4_undo 1 = .ok (.iconst 0, 1) := by decide +kernel
theorem dX4_undo_2 : decode cX4_undo 2 = .ok (.putfield 34, 3) := by decide +kernel
theorem dX4_undo_5 : decode cX4_undo 5 = .ok (.aload_n 0, 1) := by decide +kernel
theorem dX4_undo_6 : decode cX4_undo 6 = .ok (.getfield 38, 3) := by decide +kernel
theorem dX4_undo_9 : decode cX4_undo 9 = .ok (.ifCond .ne 9, 3) := by decide +kernel
theorem dX4_undo_12 : decode cX4_undo 12 = .ok (.aload_n 0, 1) := by decide +kernel
theorem dX4_undo_13 : decode cX4_undo 13 = .ok (.iconst 1, 1) := by decide +kernel
theorem dX4_undo_14 : decode cX4_undo 14 = .ok (.invokevirtual 102, 3) := by decide +kernel
theorem dX4_undo_17 : decode cX4_undo 17 = .ok (.ireturn, 1) := by decide +kernel
theorem dX4_undo_18 : decode cX4_undo 18 = .ok (.aload_n 0, 1) := by decide +kernel
theorem dX4_undo_19 : decode cX4_undo 19 = .ok (.dup, 1) := by decide +kernel
theorem dX4_undo_20 : decode cX4_undo 20 = .ok (.getfield 38, 3) := by decide +kernel
theorem dX4_undo_23 : decode cX4_undo 23 = .ok (.iconst 1, 1) := by decide +kernel
theorem dX4_undo_24 : decode cX4_undo 24 = .ok (.isub, 1) := by decide +kernel
theorem dX4_undo_25 : decode cX4_undo 25 = .ok (.putfield 38, 3) := by decide +kernel
theorem dX4_undo_28 : decode cX4_undo 28 = .ok (.iconst 0, 1) := by decide +kernel
theorem dX4_undo_29 : decode cX4_undo 29 = .ok (.istore_n 1, 1) := by decide +kernel
theorem dX4_undo_30 : decode cX4_undo 30 = .ok (.iload_n 1, 1) := by decide +kernel
theorem dX4_undo_31 : decode cX4_undo 31 = .ok (.bipush 84, 2) := by decide +kernel
theorem dX4_undo_33 : decode cX4_undo 33 = .ok (.if_icmp .ge 29, 3) := by decide +kernel
theorem dX4_undo_36 : decode cX4_undo 36 = .ok (.aload_n 0, 1) := by decide +kernel
theorem dX4_undo_37 : decode cX4_undo 37 = .ok (.getfield 7, 3) := by decide +kernel
theorem dX4_undo_40 : decode cX4_undo 40 = .ok (.iload_n 1, 1) := by decide +kernel
theorem dX4_undo_41 : decode cX4_undo 41 = .ok (.aload_n 0, 1) := by decide +kernel
theorem dX4_undo_42 : decode cX4_undo 42 = .ok (.getfield 13, 3) := by decide +kernel
theorem dX4_undo_45 : decode cX4_undo 45 = .ok (.bipush 84, 2) := by decide +kernel
theorem dX4_undo_47 : decode cX4_undo 47 = .ok (.aload_n 0, 1) := by decide +kernel
theorem dX4_undo_48 : decode cX4_undo 48 = .ok (.getfield 38, 3) := by decide +kernel
theorem dX4_undo_51 : decode cX4_undo 51 = .ok (.imul, 1) := by decide +kernel
theorem dX4_undo_52 : decode cX4_undo 52 = .ok (.iload_n 1, 1) := by decide +kernel
theorem dX4_undo_53 : decode cX4_undo 53 = .ok (.iadd, 1) := by decide +kernel
theorem dX4_undo_54 : decode cX4_undo 54 = .ok (.iaload, 1) := by decide +kernel
theorem dX4_undo_55 : decode cX4_undo 55 = .ok (.iastore, 1) := by decide +kernel
theorem dX4_undo_56 : decode cX4_undo 56 = .ok (.iinc 1 1, 3) := by decide +kernel
theorem dX4_undo_59 : decode cX4_undo 59 = .ok (.goto (-29), 3) := by decide +kernel
theorem dX4_undo_62 : decode cX4_undo 62 = .ok (.aload_n 0, 1) := by decide +kernel
theorem dX4_undo_63 : decode cX4_undo 63 = .ok (.getfield 38, 3) := by decide +kernel
theorem dX4_undo_66 : decode cX4_undo 66 = .ok (.ireturn, 1) := by decide +kernel
set_option maxRecDepth 20000 in
theorem ggX4_laySpans_X4_winnerOf : GoodIn wsX4_laySpans wsX4_winnerOf := goodIn_r _ [12, 13, 14, 15, 11, 16, 17, 18, 19, 20, 21, 22, 23, 24, 25, 26, 27, 28, 29, 30, 31, 32, 33, 34, 40, 41, 42, 43, 44, 45, 46, 47, 48, 49, 50, 51, 52, 53, 54, 55, 56, 57, 58, 59, 60, 61] (by decide +kernel) (by decide +kernel)
set_option maxRecDepth 20000 in
theorem gX4_laySpans_X4_winnerOf : GoodIn wsX4_laySpans (wsV RX4 78 RX4 yX4_winnerOf wsX4_winnerOf) := goodIn_app (goodIn_of _ (by decide +kernel)) ggX4_laySpans_X4_winnerOf
set_option maxRecDepth 20000 in
theorem ggX4_laySpans_X4_layNext : GoodIn wsX4_laySpans wsX4_layNext := goodIn_r _ [38, 2, 3, 4, 27, 39, 17, 18, 11, 19, 20, 21, 22, 23, 24, 25, 26, 28, 29, 30, 31, 32, 33, 34, 40, 41, 42, 43, 44, 45, 46, 47, 48, 49, 50, 51, 52, 53, 54, 55, 56, 57, 58, 59, 60, 61] (by decide +kernel) (by decide +kernel)
set_option maxRecDepth 20000 in
theorem gX4_laySpans_X4_layNext : GoodIn wsX4_laySpans (wsV RX4 81 RX4 yX4_layNext wsX4_layNext) := goodIn_app (goodIn_of _ (by decide +kernel)) ggX4_laySpans_X4_layNext
theorem dX4_laySpans_0 : decode cX4_laySpans 0 = .ok (.aload_n 0, 1) := by decide +kernel
theorem dX4_laySpans_1 : decode cX4_laySpans 1 = .ok (.iconst 0, 1) := by decide +kernel
theorem dX4_laySpans_2 : decode cX4_laySpans 2 = .ok (.putfield 162, 3) := by decide +kernel
theorem dX4_laySpans_5 : decode cX4_laySpans 5 = .ok (.aload_n 0, 1) := by decide +kernel
theorem dX4_laySpans_6 : decode cX4_laySpans 6 = .ok (.aload_n 0, 1) := by decide +kernel
theorem dX4_laySpans_7 : decode cX4_laySpans 7 = .ok (.iconst 1, 1) := by decide +kernel
theorem dX4_laySpans_8 : decode cX4_laySpans 8 = .ok (.invokevirtual 78, 3) := by decide +kernel
theorem dX4_laySpans_11 : decode cX4_laySpans 11 = .ok (.putfield 67, 3) := by decide +kernel
theorem dX4_laySpans_14 : decode cX4_laySpans 14 = .ok (.aload_n 0, 1) := by decide +kernel
theorem dX4_laySpans_15 : decode cX4_laySpans 15 = .ok (.iconst 0, 1) := by decide +kernel
theorem dX4_laySpans_16 : decode cX4_laySpans 16 = .ok (.putfield 70, 3) := by decide +kernel
theorem dX4_laySpans_19 : decode cX4_laySpans 19 = .ok (.aload_n 0, 1) := by decide +kernel
theorem dX4_laySpans_20 : decode cX4_laySpans 20 = .ok (.iconst 1, 1) := by decide +kernel
theorem dX4_laySpans_21 : decode cX4_laySpans 21 = .ok (.putfield 73, 3) := by decide +kernel
theorem dX4_laySpans_24 : decode cX4_laySpans 24 = .ok (.aload_n 0, 1) := by decide +kernel
theorem dX4_laySpans_25 : decode cX4_laySpans 25 = .ok (.getfield 67, 3) := by decide +kernel
theorem dX4_laySpans_28 : decode cX4_laySpans 28 = .ok (.iconst (-1), 1) := by decide +kernel
theorem dX4_laySpans_29 : decode cX4_laySpans 29 = .ok (.if_icmp .eq 64, 3) := by decide +kernel
theorem dX4_laySpans_32 : decode cX4_laySpans 32 = .ok (.aload_n 0, 1) := by decide +kernel
theorem dX4_laySpans_33 : decode cX4_laySpans 33 = .ok (.getfield 25, 3) := by decide +kernel
theorem dX4_laySpans_36 : decode cX4_laySpans 36 = .ok (.aload_n 0, 1) := by decide +kernel
theorem dX4_laySpans_37 : decode cX4_laySpans 37 = .ok (.getfield 162, 3) := by decide +kernel
theorem dX4_laySpans_40 : decode cX4_laySpans 40 = .ok (.aload_n 0, 1) := by decide +kernel
theorem dX4_laySpans_41 : decode cX4_laySpans 41 = .ok (.getfield 67, 3) := by decide +kernel
theorem dX4_laySpans_44 : decode cX4_laySpans 44 = .ok (.iastore, 1) := by decide +kernel
theorem dX4_laySpans_45 : decode cX4_laySpans 45 = .ok (.aload_n 0, 1) := by decide +kernel
theorem dX4_laySpans_46 : decode cX4_laySpans 46 = .ok (.getfield 28, 3) := by decide +kernel
theorem dX4_laySpans_49 : decode cX4_laySpans 49 = .ok (.aload_n 0, 1) := by decide +kernel
theorem dX4_laySpans_50 : decode cX4_laySpans 50 = .ok (.getfield 162, 3) := by decide +kernel
theorem dX4_laySpans_53 : decode cX4_laySpans 53 = .ok (.aload_n 0, 1) := by decide +kernel
theorem dX4_laySpans_54 : decode cX4_laySpans 54 = .ok (.getfield 70, 3) := by decide +kernel
theorem dX4_laySpans_57 : decode cX4_laySpans 57 = .ok (.iastore, 1) := by decide +kernel
theorem dX4_laySpans_58 : decode cX4_laySpans 58 = .ok (.aload_n 0, 1) := by decide +kernel
theorem dX4_laySpans_59 : decode cX4_laySpans 59 = .ok (.getfield 31, 3) := by decide +kernel
theorem dX4_laySpans_62 : decode cX4_laySpans 62 = .ok (.aload_n 0, 1) := by decide +kernel
theorem dX4_laySpans_63 : decode cX4_laySpans 63 = .ok (.getfield 162, 3) := by decide +kernel
theorem dX4_laySpans_66 : decode cX4_laySpans 66 = .ok (.aload_n 0, 1) := by decide +kernel
theorem dX4_laySpans_67 : decode cX4_laySpans 67 = .ok (.getfield 73, 3) := by decide +kernel
theorem dX4_laySpans_70 : decode cX4_laySpans 70 = .ok (.iastore, 1) := by decide +kernel
theorem dX4_laySpans_71 : decode cX4_laySpans 71 = .ok (.aload_n 0, 1) := by decide +kernel
theorem dX4_laySpans_72 : decode cX4_laySpans 72 = .ok (.dup, 1) := by decide +kernel
theorem dX4_laySpans_73 : decode cX4_laySpans 73 = .ok (.getfield 162, 3) := by decide +kernel
theorem dX4_laySpans_76 : decode cX4_laySpans 76 = .ok (.iconst 1, 1) := by decide +kernel
theorem dX4_laySpans_77 : decode cX4_laySpans 77 = .ok (.iadd, 1) := by decide +kernel
theorem dX4_laySpans_78 : decode cX4_laySpans 78 = .ok (.putfield 162, 3) := by decide +kernel
theorem dX4_laySpans_81 : decode cX4_laySpans 81 = .ok (.aload_n 0, 1) := by decide +kernel
theorem dX4_laySpans_82 : decode cX4_laySpans 82 = .ok (.iconst 1, 1) := by decide +kernel
theorem dX4_laySpans_83 : decode cX4_laySpans 83 = .ok (.aload_n 0, 1) := by decide +kernel
theorem dX4_laySpans_84 : decode cX4_laySpans 84 = .ok (.getfield 67, 3) := by decide +kernel
theorem dX4_laySpans_87 : decode cX4_laySpans 87 = .ok (.invokevirtual 81, 3) := by decide +kernel
theorem dX4_laySpans_90 : decode cX4_laySpans 90 = .ok (.goto (-66), 3) := by decide +kernel
theorem dX4_laySpans_93 : decode cX4_laySpans 93 = .ok (.return_, 1) := by decide +kernel
set_option maxRecDepth 20000 in
theorem ggX4_spanOf_X4_laySpans : GoodIn wsX4_spanOf wsX4_laySpans := goodIn_r _ [7, 1, 8, 9, 10, 2, 11, 12, 13, 14, 15, 6, 16, 17, 18, 19, 20, 21, 22, 23, 24, 25, 26, 27, 28, 29, 30, 31, 32, 33, 34, 35, 36, 37, 38, 39, 40, 41, 42, 43, 44, 45, 46, 47, 48, 49, 50, 51, 52, 53, 54, 55, 56, 57, 58, 59, 60, 61, 62, 63, 64, 65] (by decide +kernel) (by decide +kernel)
set_option maxRecDepth 20000 in
theorem gX4_spanOf_X4_laySpans : GoodIn wsX4_spanOf (wsV RX4 165 RX4 yX4_laySpans wsX4_laySpans) := goodIn_app (goodIn_of _ (by decide +kernel)) ggX4_spanOf_X4_laySpans
theorem dX4_spanOf_0 : decode cX4_spanOf 0 = .ok (.aload_n 0, 1) := by decide +kernel
theorem dX4_spanOf_1 : decode cX4_spanOf 1 = .ok (.invokevirtual 165, 3) := by decide +kernel
theorem dX4_spanOf_4 : decode cX4_spanOf 4 = .ok (.iconst 0, 1) := by decide +kernel
theorem dX4_spanOf_5 : decode cX4_spanOf 5 = .ok (.istore_n 2, 1) := by decide +kernel
theorem dX4_spanOf_6 : decode cX4_spanOf 6 = .ok (.iload_n 2, 1) := by decide +kernel
theorem dX4_spanOf_7 : decode cX4_spanOf 7 = .ok (.aload_n 0, 1) := by decide +kernel
theorem dX4_spanOf_8 : decode cX4_spanOf 8 = .ok (.getfield 162, 3) := by decide +kernel
theorem dX4_spanOf_11 : decode cX4_spanOf 11 = .ok (.if_icmp .ge 21, 3) := by decide +kernel
theorem dX4_spanOf_14 : decode cX4_spanOf 14 = .ok (.aload_n 0, 1) := by decide +kernel
theorem dX4_spanOf_15 : decode cX4_spanOf 15 = .ok (.getfield 25, 3) := by decide +kernel
theorem dX4_spanOf_18 : decode cX4_spanOf 18 = .ok (.iload_n 2, 1) := by decide +kernel
theorem dX4_spanOf_19 : decode cX4_spanOf 19 = .ok (.iaload, 1) := by decide +kernel
theorem dX4_spanOf_20 : decode cX4_spanOf 20 = .ok (.iload_n 1, 1) := by decide +kernel
theorem dX4_spanOf_21 : decode cX4_spanOf 21 = .ok (.if_icmp .ne 5, 3) := by decide +kernel
theorem dX4_spanOf_24 : decode cX4_spanOf 24 = .ok (.iload_n 2, 1) := by decide +kernel
theorem dX4_spanOf_25 : decode cX4_spanOf 25 = .ok (.ireturn, 1) := by decide +kernel
theorem dX4_spanOf_26 : decode cX4_spanOf 26 = .ok (.iinc 2 1, 3) := by decide +kernel
theorem dX4_spanOf_29 : decode cX4_spanOf 29 = .ok (.goto (-23), 3) := by decide +kernel
theorem dX4_spanOf_32 : decode cX4_spanOf 32 = .ok (.iconst (-1), 1) := by decide +kernel
theorem dX4_spanOf_33 : decode cX4_spanOf 33 = .ok (.ireturn, 1) := by decide +kernel
set_option maxRecDepth 20000 in
theorem ggX4_rankOf_X4_has : GoodIn wsX4_rankOf wsX4_has := goodIn_r _ [5, 6, 7, 8, 4, 9, 14, 15, 16, 17, 18, 19, 20, 21, 22, 23, 24, 25, 26, 27, 28, 29, 30, 31, 32, 33, 34, 35] (by decide +kernel) (by decide +kernel)
set_option maxRecDepth 20000 in
theorem gX4_rankOf_X4_has : GoodIn wsX4_rankOf (wsV RX4 49 RX4 yX4_has wsX4_has) := goodIn_app (goodIn_of _ (by decide +kernel)) ggX4_rankOf_X4_has
set_option maxRecDepth 20000 in
theorem ggX4_rankOf_X4_isAhead : GoodIn wsX4_rankOf wsX4_isAhead := goodIn_r _ [13, 6, 7, 8, 4, 9, 14, 15, 16, 17, 18, 19, 20, 21, 22, 23, 24, 25, 26, 27, 28, 29, 30, 31, 32, 33, 34, 35] (by decide +kernel) (by decide +kernel)
set_option maxRecDepth 20000 in
theorem gX4_rankOf_X4_isAhead : GoodIn wsX4_rankOf (wsV RX4 59 RX4 yX4_isAhead wsX4_isAhead) := goodIn_app (goodIn_of _ (by decide +kernel)) ggX4_rankOf_X4_isAhead
theorem dX4_rankOf_0 : decode cX4_rankOf 0 = .ok (.iconst 0, 1) := by decide +kernel
theorem dX4_rankOf_1 : decode cX4_rankOf 1 = .ok (.istore_n 2, 1) := by decide +kernel
theorem dX4_rankOf_2 : decode cX4_rankOf 2 = .ok (.iconst 0, 1) := by decide +kernel
theorem dX4_rankOf_3 : decode cX4_rankOf 3 = .ok (.istore_n 3, 1) := by decide +kernel
theorem dX4_rankOf_4 : decode cX4_rankOf 4 = .ok (.iload_n 3, 1) := by decide +kernel
theorem dX4_rankOf_5 : decode cX4_rankOf 5 = .ok (.bipush 16, 2) := by decide +kernel
theorem dX4_rankOf_7 : decode cX4_rankOf 7 = .ok (.if_icmp .ge 41, 3) := by decide +kernel
theorem dX4_rankOf_10 : decode cX4_rankOf 10 = .ok (.iload_n 2, 1) := by decide +kernel
theorem dX4_rankOf_11 : decode cX4_rankOf 11 = .ok (.iload_n 3, 1) := by decide +kernel
theorem dX4_rankOf_12 : decode cX4_rankOf 12 = .ok (.iload_n 1, 1) := by decide +kernel
theorem dX4_rankOf_13 : decode cX4_rankOf 13 = .ok (.if_icmp .eq 26, 3) := by decide +kernel
theorem dX4_rankOf_16 : decode cX4_rankOf 16 = .ok (.aload_n 0, 1) := by decide +kernel
theorem dX4_rankOf_17 : decode cX4_rankOf 17 = .ok (.iload_n 3, 1) := by decide +kernel
theorem dX4_rankOf_18 : decode cX4_rankOf 18 = .ok (.invokevirtual 49, 3) := by decide +kernel
theorem dX4_rankOf_21 : decode cX4_rankOf 21 = .ok (.ifCond .eq 18, 3) := by decide +kernel
theorem dX4_rankOf_24 : decode cX4_rankOf 24 = .ok (.aload_n 0, 1) := by decide +kernel
theorem dX4_rankOf_25 : decode cX4_rankOf 25 = .ok (.iload_n 3, 1) := by decide +kernel
theorem dX4_rankOf_26 : decode cX4_rankOf 26 = .ok (.iload_n 1, 1) := by decide +kernel
theorem dX4_rankOf_27 : decode cX4_rankOf 27 = .ok (.lconst 0, 1) := by decide +kernel
theorem dX4_rankOf_28 : decode cX4_rankOf 28 = .ok (.lconst 1, 1) := by decide +kernel
theorem dX4_rankOf_29 : decode cX4_rankOf 29 = .ok (.invokevirtual 59, 3) := by decide +kernel
theorem dX4_rankOf_32 : decode cX4_rankOf 32 = .ok (.ifCond .eq 7, 3) := by decide +kernel
theorem dX4_rankOf_35 : decode cX4_rankOf 35 = .ok (.iconst 1, 1) := by decide +kernel
theorem dX4_rankOf_36 : decode cX4_rankOf 36 = .ok (.goto 4, 3) := by decide +kernel
theorem dX4_rankOf_39 : decode cX4_rankOf 39 = .ok (.iconst 0, 1) := by decide +kernel
theorem dX4_rankOf_40 : decode cX4_rankOf 40 = .ok (.iadd, 1) := by decide +kernel
theorem dX4_rankOf_41 : decode cX4_rankOf 41 = .ok (.istore_n 2, 1) := by decide +kernel
theorem dX4_rankOf_42 : decode cX4_rankOf 42 = .ok (.iinc 3 1, 3) := by decide +kernel
theorem dX4_rankOf_45 : decode cX4_rankOf 45 = .ok (.goto (-41), 3) := by decide +kernel
theorem dX4_rankOf_48 : decode cX4_rankOf 48 = .ok (.iload_n 2, 1) := by decide +kernel
theorem dX4_rankOf_49 : decode cX4_rankOf 49 = .ok (.ireturn, 1) := by decide +kernel
set_option maxRecDepth 20000 in
theorem ggX4_wins_X4_winnerOf : GoodIn wsX4_wins wsX4_winnerOf := goodIn_r _ [5, 6, 7, 8, 4, 9, 10, 11, 12, 13, 14, 15, 16, 17, 18, 19, 20, 21, 22, 23, 24, 25, 26, 27, 28, 29, 30, 31, 32, 33, 34, 35, 36, 37, 38, 39, 40, 41, 42, 43, 44, 45, 46, 47, 48, 49] (by decide +kernel) (by decide +kernel)
set_option maxRecDepth 20000 in
theorem gX4_wins_X4_winnerOf : GoodIn wsX4_wins (wsV RX4 78 RX4 yX4_winnerOf wsX4_winnerOf) := goodIn_app (goodIn_of _ (by decide +kernel)) ggX4_wins_X4_winnerOf
theorem dX4_wins_0 : decode cX4_wins 0 = .ok (.iconst 0, 1) := by decide +kernel
theorem dX4_wins_1 : decode cX4_wins 1 = .ok (.istore_n 2, 1) := by decide +kernel
theorem dX4_wins_2 : decode cX4_wins 2 = .ok (.iconst 1, 1) := by decide +kernel
theorem dX4_wins_3 : decode cX4_wins 3 = .ok (.istore_n 3, 1) := by decide +kernel
theorem dX4_wins_4 : decode cX4_wins 4 = .ok (.iload_n 3, 1) := by decide +kernel
theorem dX4_wins_5 : decode cX4_wins 5 = .ok (.bipush 15, 2) := by decide +kernel
theorem dX4_wins_7 : decode cX4_wins 7 = .ok (.if_icmp .gt 26, 3) := by decide +kernel
theorem dX4_wins_10 : decode cX4_wins 10 = .ok (.iload_n 2, 1) := by decide +kernel
theorem dX4_wins_11 : decode cX4_wins 11 = .ok (.aload_n 0, 1) := by decide +kernel
theorem dX4_wins_12 : decode cX4_wins 12 = .ok (.iload_n 3, 1) := by decide +kernel
theorem dX4_wins_13 : decode cX4_wins 13 = .ok (.invokevirtual 78, 3) := by decide +kernel
theorem dX4_wins_16 : decode cX4_wins 16 = .ok (.iload_n 1, 1) := by decide +kernel
theorem dX4_wins_17 : decode cX4_wins 17 = .ok (.if_icmp .ne 7, 3) := by decide +kernel
theorem dX4_wins_20 : decode cX4_wins 20 = .ok (.iconst 1, 1) := by decide +kernel
theorem dX4_wins_21 : decode cX4_wins 21 = .ok (.goto 4, 3) := by decide +kernel
theorem dX4_wins_24 : decode cX4_wins 24 = .ok (.iconst 0, 1) := by decide +kernel
theorem dX4_wins_25 : decode cX4_wins 25 = .ok (.iadd, 1) := by decide +kernel
theorem dX4_wins_26 : decode cX4_wins 26 = .ok (.istore_n 2, 1) := by decide +kernel
theorem dX4_wins_27 : decode cX4_wins 27 = .ok (.iinc 3 1, 3) := by decide +kernel
theorem dX4_wins_30 : decode cX4_wins 30 = .ok (.goto (-26), 3) := by decide +kernel
theorem dX4_wins_33 : decode cX4_wins 33 = .ok (.iload_n 2, 1) := by decide +kernel
theorem dX4_wins_34 : decode cX4_wins 34 = .ok (.ireturn, 1) := by decide +kernel
set_option maxRecDepth 20000 in
theorem ggX4_leadsAt_X4_spanOf : GoodIn wsX4_leadsAt wsX4_spanOf := goodIn_r _ [7, 8, 9, 10, 11, 12, 6, 13, 14, 15, 16, 1, 2, 17, 18, 19, 20, 21, 22, 23, 24, 25, 26, 27, 28, 29, 30, 31, 32, 33, 34, 35, 36, 37, 38, 39, 40, 41, 42, 43, 44, 45, 46, 47, 55, 56, 57, 58, 59, 60, 61, 62, 63, 64, 65, 66, 67, 68, 69, 70, 71, 72, 73, 74, 75, 76] (by decide +kernel) (by decide +kernel)
set_option maxRecDepth 20000 in
theorem gX4_leadsAt_X4_spanOf : GoodIn wsX4_leadsAt (wsV RX4 168 RX4 yX4_spanOf wsX4_spanOf) := goodIn_app (goodIn_of _ (by decide +kernel)) ggX4_leadsAt_X4_spanOf
set_option maxRecDepth 20000 in
theorem ggX4_leadsAt_X4_moment : GoodIn wsX4_leadsAt wsX4_moment := goodIn_r _ [51, 35, 52, 53, 6, 54, 55, 56, 57, 58, 59, 60, 61, 62, 63, 64, 65, 66, 67, 68, 69, 70, 71, 72, 73, 74, 75, 76] (by decide +kernel) (by decide +kernel)
set_option maxRecDepth 20000 in
theorem gX4_leadsAt_X4_moment : GoodIn wsX4_leadsAt (wsV RX4 171 RX4 yX4_moment wsX4_moment) := goodIn_app (goodIn_of _ (by decide +kernel)) ggX4_leadsAt_X4_moment
theorem dX4_leadsAt_0 : decode cX4_leadsAt 0 = .ok (.aload_n 0, 1) := by decide +kernel
theorem dX4_leadsAt_1 : decode cX4_leadsAt 1 = .ok (.iload_n 1, 1) := by decide +kernel
theorem dX4_leadsAt_2 : decode cX4_leadsAt 2 = .ok (.invokevirtual 168, 3) := by decide +kernel
theorem dX4_leadsAt_5 : decode cX4_leadsAt 5 = .ok (.istore_n 3, 1) := by decide +kernel
theorem dX4_leadsAt_6 : decode cX4_leadsAt 6 = .ok (.iload_n 3, 1) := by decide +kernel
theorem dX4_leadsAt_7 : decode cX4_leadsAt 7 = .ok (.iconst (-1), 1) := by decide +kernel
theorem dX4_leadsAt_8 : decode cX4_leadsAt 8 = .ok (.if_icmp .ne 7, 3) := by decide +kernel
theorem dX4_leadsAt_11 : decode cX4_leadsAt 11 = .ok (.iconst 0, 1) := by decide +kernel
theorem dX4_leadsAt_12 : decode cX4_leadsAt 12 = .ok (.goto 20, 3) := by decide +kernel
theorem dX4_leadsAt_15 : decode cX4_leadsAt 15 = .ok (.aload_n 0, 1) := by decide +kernel
theorem dX4_leadsAt_16 : decode cX4_leadsAt 16 = .ok (.aload_n 0, 1) := by decide +kernel
theorem dX4_leadsAt_17 : decode cX4_leadsAt 17 = .ok (.getfield 28, 3) := by decide +kernel
theorem dX4_leadsAt_20 : decode cX4_leadsAt 20 = .ok (.iload_n 3, 1) := by decide +kernel
theorem dX4_leadsAt_21 : decode cX4_leadsAt 21 = .ok (.iaload, 1) := by decide +kernel
theorem dX4_leadsAt_22 : decode cX4_leadsAt 22 = .ok (.aload_n 0, 1) := by decide +kernel
theorem dX4_leadsAt_23 : decode cX4_leadsAt 23 = .ok (.getfield 31, 3) := by decide +kernel
theorem dX4_leadsAt_26 : decode cX4_leadsAt 26 = .ok (.iload_n 3, 1) := by decide +kernel
theorem dX4_leadsAt_27 : decode cX4_leadsAt 27 = .ok (.iaload, 1) := by decide +kernel
theorem dX4_leadsAt_28 : decode cX4_leadsAt 28 = .ok (.iload_n 2, 1) := by decide +kernel
theorem dX4_leadsAt_29 : decode cX4_leadsAt 29 = .ok (.invokevirtual 171, 3) := by decide +kernel
theorem dX4_leadsAt_32 : decode cX4_leadsAt 32 = .ok (.ireturn, 1) := by decide +kernel
set_option maxRecDepth 20000 in
theorem ggX4_moverOf_X4_at : GoodIn wsX4_moverOf wsX4_at := goodIn_r _ [5] (by decide +kernel) (by decide +kernel)
set_option maxRecDepth 20000 in
theorem gX4_moverOf_X4_at : GoodIn wsX4_moverOf (va_wsS RX4 41 yX4_at wsX4_at) := goodIn_app (goodIn_of _ (by decide +kernel)) ggX4_moverOf_X4_at
set_option maxRecDepth 20000 in
theorem ggX4_moverOf_X4_rankOf : GoodIn wsX4_moverOf wsX4_rankOf := goodIn_r _ [9, 10, 11, 12, 4, 13, 1, 2, 3, 5, 14, 15, 16, 17, 67, 68, 69, 70, 71, 72, 73, 74, 75, 76, 77, 78, 79, 80, 81, 82, 83, 84, 85, 86, 87, 88] (by decide +kernel) (by decide +kernel)
set_option maxRecDepth 20000 in
theorem gX4_moverOf_X4_rankOf : GoodIn wsX4_moverOf (wsV RX4 175 RX4 yX4_rankOf wsX4_rankOf) := goodIn_app (goodIn_of _ (by decide +kernel)) ggX4_moverOf_X4_rankOf
set_option maxRecDepth 20000 in
theorem ggX4_moverOf_X4_wins : GoodIn wsX4_moverOf wsX4_wins := goodIn_r _ [21, 22, 23, 24, 4, 25, 26, 27, 28, 29, 30, 31, 32, 33, 34, 35, 10, 11, 12, 13, 1, 2, 3, 5, 14, 15, 16, 17, 67, 68, 69, 70, 71, 72, 73, 74, 75, 76, 77, 78, 79, 80, 81, 82, 83, 84, 85, 86, 87, 88] (by decide +kernel) (by decide +kernel)
set_option maxRecDepth 20000 in
theorem gX4_moverOf_X4_wins : GoodIn wsX4_moverOf (wsV RX4 178 RX4 yX4_wins wsX4_wins) := goodIn_app (goodIn_of _ (by decide +kernel)) ggX4_moverOf_X4_wins
set_option maxRecDepth 20000 in
theorem ggX4_moverOf_X4_leadsAt : GoodIn wsX4_moverOf wsX4_leadsAt := goodIn_r _ [39, 40, 41, 42, 43, 44, 4, 45, 46, 47, 48, 49, 50, 51, 52, 53, 54, 22, 23, 24, 25, 26, 27, 28, 29, 30, 31, 32, 33, 34, 35, 10, 11, 12, 13, 1, 2, 3, 5, 14, 15, 16, 17, 55, 56, 57, 58, 59, 60, 61, 62, 63, 64, 65, 66, 67, 68, 69, 70, 71, 72, 73, 74, 75, 76, 77, 78, 79, 80, 81, 82, 83, 84, 85, 86, 87, 88] (by decide +kernel) (by decide +kernel)
set_option maxRecDepth 20000 in
theorem gX4_moverOf_X4_leadsAt : GoodIn wsX4_moverOf (wsV RX4 181 RX4 yX4_leadsAt wsX4_leadsAt) := goodIn_app (goodIn_of _ (by decide +kernel)) ggX4_moverOf_X4_leadsAt
theorem dX4_moverOf_0 : decode cX4_moverOf 0 = .ok (.iload_n 2, 1) := by decide +kernel
theorem dX4_moverOf_1 : decode cX4_moverOf 1 = .ok (.tableswitch 81 0 6 #[43, 43, 57, 63, 81, 81, 69], 43) := by decide +kernel
theorem dX4_moverOf_44 : decode cX4_moverOf 44 = .ok (.aload_n 0, 1) := by decide +kernel
theorem dX4_moverOf_45 : decode cX4_moverOf 45 = .ok (.getfield 7, 3) := by decide +kernel
theorem dX4_moverOf_48 : decode cX4_moverOf 48 = .ok (.iload_n 1, 1) := by decide +kernel
theorem dX4_moverOf_49 : decode cX4_moverOf 49 = .ok (.invokestatic 41, 3) := by decide +kernel
theorem dX4_moverOf_52 : decode cX4_moverOf 52 = .ok (.iconst 1, 1) := by decide +kernel
theorem dX4_moverOf_53 : decode cX4_moverOf 53 = .ok (.iadd, 1) := by decide +kernel
theorem dX4_moverOf_54 : decode cX4_moverOf 54 = .ok (.iload_n 2, 1) := by decide +kernel
theorem dX4_moverOf_55 : decode cX4_moverOf 55 = .ok (.iadd, 1) := by decide +kernel
theorem dX4_moverOf_56 : decode cX4_moverOf 56 = .ok (.iaload, 1) := by decide +kernel
theorem dX4_moverOf_57 : decode cX4_moverOf 57 = .ok (.ireturn, 1) := by decide +kernel
theorem dX4_moverOf_58 : decode cX4_moverOf 58 = .ok (.aload_n 0, 1) := by decide +kernel
theorem dX4_moverOf_59 : decode cX4_moverOf 59 = .ok (.iload_n 1, 1) := by decide +kernel
theorem dX4_moverOf_60 : decode cX4_moverOf 60 = .ok (.invokevirtual 175, 3) := by decide +kernel
theorem dX4_moverOf_63 : decode cX4_moverOf 63 = .ok (.ireturn, 1) := by decide +kernel
theorem dX4_moverOf_64 : decode cX4_moverOf 64 = .ok (.aload_n 0, 1) := by decide +kernel
theorem dX4_moverOf_65 : decode cX4_moverOf 65 = .ok (.iload_n 1, 1) := by decide +kernel
theorem dX4_moverOf_66 : decode cX4_moverOf 66 = .ok (.invokevirtual 178, 3) := by decide +kernel
theorem dX4_moverOf_69 : decode cX4_moverOf 69 = .ok (.ireturn, 1) := by decide +kernel
theorem dX4_moverOf_70 : decode cX4_moverOf 70 = .ok (.aload_n 0, 1) := by decide +kernel
theorem dX4_moverOf_71 : decode cX4_moverOf 71 = .ok (.getfield 7, 3) := by decide +kernel
theorem dX4_moverOf_74 : decode cX4_moverOf 74 = .ok (.iload_n 1, 1) := by decide +kernel
theorem dX4_moverOf_75 : decode cX4_moverOf 75 = .ok (.invokestatic 41, 3) := by decide +kernel
theorem dX4_moverOf_78 : decode cX4_moverOf 78 = .ok (.iconst 3, 1) := by decide +kernel
theorem dX4_moverOf_79 : decode cX4_moverOf 79 = .ok (.iadd, 1) := by decide +kernel
theorem dX4_moverOf_80 : decode cX4_moverOf 80 = .ok (.iaload, 1) := by decide +kernel
theorem dX4_moverOf_81 : decode cX4_moverOf 81 = .ok (.ireturn, 1) := by decide +kernel
theorem dX4_moverOf_82 : decode cX4_moverOf 82 = .ok (.aload_n 0, 1) := by decide +kernel
theorem dX4_moverOf_83 : decode cX4_moverOf 83 = .ok (.iload_n 1, 1) := by decide +kernel
theorem dX4_moverOf_84 : decode cX4_moverOf 84 = .ok (.iload_n 2, 1) := by decide +kernel
theorem dX4_moverOf_85 : decode cX4_moverOf 85 = .ok (.iconst 4, 1) := by decide +kernel
theorem dX4_moverOf_86 : decode cX4_moverOf 86 = .ok (.isub, 1) := by decide +kernel
theorem dX4_moverOf_87 : decode cX4_moverOf 87 = .ok (.invokevirtual 181, 3) := by decide +kernel
theorem dX4_moverOf_90 : decode cX4_moverOf 90 = .ok (.ireturn, 1) := by decide +kernel
set_option maxRecDepth 20000 in
theorem ggX4_mover_X4_isMover : GoodIn wsX4_mover wsX4_isMover := goodIn_r _ [6, 7, 8, 5, 9, 10, 11, 12, 13, 14, 15, 16, 17, 83, 84, 85, 86, 87, 88, 89, 90, 91, 92, 93, 94, 95, 96, 97, 98, 99, 100, 101, 102, 103, 104] (by decide +kernel) (by decide +kernel)
set_option maxRecDepth 20000 in
theorem gX4_mover_X4_isMover : GoodIn wsX4_mover (wsV RX4 111 RX4 yX4_isMover wsX4_isMover) := goodIn_app (goodIn_of _ (by decide +kernel)) ggX4_mover_X4_isMover
set_option maxRecDepth 20000 in
theorem ggX4_mover_X4_fails : GoodIn wsX4_mover wsX4_fails := goodIn_r _ [21, 1, 83, 84, 85, 86, 87, 88, 89, 90, 91, 92, 93, 94, 95, 96, 97, 98, 99, 100, 101, 102, 103, 104] (by decide +kernel) (by decide +kernel)
set_option maxRecDepth 20000 in
theorem gX4_mover_X4_fails : GoodIn wsX4_mover (wsV RX4 102 RX4 yX4_fails wsX4_fails) := goodIn_app (goodIn_of _ (by decide +kernel)) ggX4_mover_X4_fails
set_option maxRecDepth 20000 in
theorem ggX4_mover_X4_in : GoodIn wsX4_mover wsX4_in := goodIn_r _ [9] (by decide +kernel) (by decide +kernel)
set_option maxRecDepth 20000 in
theorem gX4_mover_X4_in : GoodIn wsX4_mover (va_wsS RX4 45 yX4_in wsX4_in) := goodIn_app (goodIn_of _ (by decide +kernel)) ggX4_mover_X4_in
set_option maxRecDepth 20000 in
theorem ggX4_mover_X4_moverOf : GoodIn wsX4_mover wsX4_moverOf := goodIn_r _ [25, 14, 15, 16, 5, 17, 26, 27, 28, 29, 10, 11, 12, 13, 30, 31, 32, 33, 34, 35, 36, 37, 38, 39, 40, 41, 42, 43, 44, 45, 46, 47, 48, 49, 50, 51, 52, 53, 54, 55, 56, 57, 58, 59, 60, 61, 62, 63, 64, 65, 66, 67, 68, 69, 70, 71, 72, 73, 74, 75, 76, 77, 78, 79, 80, 81, 82, 83, 84, 85, 86, 87, 88, 89, 90, 91, 92, 93, 94, 95, 96, 97, 98, 99, 100, 101, 102, 103, 104] (by decide +kernel) (by decide +kernel)
set_option maxRecDepth 20000 in
theorem gX4_mover_X4_moverOf : GoodIn wsX4_mover (wsV RX4 184 RX4 yX4_moverOf wsX4_moverOf) := goodIn_app (goodIn_of _ (by decide +kernel)) ggX4_mover_X4_moverOf
theorem dX4_mover_0 : decode cX4_mover 0 = .ok (.aload_n 0, 1) := by decide +kernel
theorem dX4_mover_1 : decode cX4_mover 1 = .ok (.iconst 0, 1) := by decide +kernel
theorem dX4_mover_2 : decode cX4_mover 2 = .ok (.putfield 34, 3) := by decide +kernel
theorem dX4_mover_5 : decode cX4_mover 5 = .ok (.aload_n 0, 1) := by decide +kernel
theorem dX4_mover_6 : decode cX4_mover 6 = .ok (.iload_n 1, 1) := by decide +kernel
theorem dX4_mover_7 : decode cX4_mover 7 = .ok (.invokevirtual 111, 3) := by decide +kernel
theorem dX4_mover_10 : decode cX4_mover 10 = .ok (.ifCond .ne 9, 3) := by decide +kernel
theorem dX4_mover_13 : decode cX4_mover 13 = .ok (.aload_n 0, 1) := by decide +kernel
theorem dX4_mover_14 : decode cX4_mover 14 = .ok (.iconst 1, 1) := by decide +kernel
theorem dX4_mover_15 : decode cX4_mover 15 = .ok (.invokevirtual 102, 3) := by decide +kernel
theorem dX4_mover_18 : decode cX4_mover 18 = .ok (.ireturn, 1) := by decide +kernel
theorem dX4_mover_19 : decode cX4_mover 19 = .ok (.iload_n 2, 1) := by decide +kernel
theorem dX4_mover_20 : decode cX4_mover 20 = .ok (.iconst 0, 1) := by decide +kernel
theorem dX4_mover_21 : decode cX4_mover 21 = .ok (.bipush 6, 2) := by decide +kernel
theorem dX4_mover_23 : decode cX4_mover 23 = .ok (.invokestatic 45, 3) := by decide +kernel
theorem dX4_mover_26 : decode cX4_mover 26 = .ok (.ifCond .eq 12, 3) := by decide +kernel
theorem dX4_mover_29 : decode cX4_mover 29 = .ok (.aload_n 0, 1) := by decide +kernel
theorem dX4_mover_30 : decode cX4_mover 30 = .ok (.iload_n 1, 1) := by decide +kernel
theorem dX4_mover_31 : decode cX4_mover 31 = .ok (.iload_n 2, 1) := by decide +kernel
theorem dX4_mover_32 : decode cX4_mover 32 = .ok (.invokevirtual 184, 3) := by decide +kernel
theorem dX4_mover_35 : decode cX4_mover 35 = .ok (.goto 8, 3) := by decide +kernel
theorem dX4_mover_38 : decode cX4_mover 38 = .ok (.aload_n 0, 1) := by decide +kernel
theorem dX4_mover_39 : decode cX4_mover 39 = .ok (.iconst 2, 1) := by decide +kernel
theorem dX4_mover_40 : decode cX4_mover 40 = .ok (.invokevirtual 102, 3) := by decide +kernel
theorem dX4_mover_43 : decode cX4_mover 43 = .ok (.ireturn, 1) := by decide +kernel
set_option maxRecDepth 20000 in
theorem ggX4_loserOf_X4_winnerOf : GoodIn wsX4_loserOf wsX4_winnerOf := goodIn_r _ [5, 6, 7, 8, 4, 9, 10, 11, 12, 13, 14, 15, 16, 17, 18, 19, 20, 21, 22, 23, 24, 25, 26, 27, 28, 29, 30, 31, 32, 33, 34, 35, 36, 37, 38, 39, 40, 41, 42, 43, 44, 45, 46, 47, 48, 49] (by decide +kernel) (by decide +kernel)
set_option maxRecDepth 20000 in
theorem gX4_loserOf_X4_winnerOf : GoodIn wsX4_loserOf (wsV RX4 78 RX4 yX4_winnerOf wsX4_winnerOf) := goodIn_app (goodIn_of _ (by decide +kernel)) ggX4_loserOf_X4_winnerOf
set_option maxRecDepth 20000 in
theorem ggX4_loserOf_X4_firstOf : GoodIn wsX4_loserOf wsX4_firstOf := goodIn_r _ [12, 13, 14, 4, 15] (by decide +kernel) (by decide +kernel)
set_option maxRecDepth 20000 in
theorem gX4_loserOf_X4_firstOf : GoodIn wsX4_loserOf (va_wsS RX4 56 yX4_firstOf wsX4_firstOf) := goodIn_app (goodIn_of _ (by decide +kernel)) ggX4_loserOf_X4_firstOf
set_option maxRecDepth 20000 in
theorem ggX4_loserOf_X4_has : GoodIn wsX4_loserOf wsX4_has := goodIn_r _ [19, 20, 21, 22, 4, 23, 28, 29, 30, 31, 32, 33, 34, 35, 36, 37, 38, 39, 40, 41, 42, 43, 44, 45, 46, 47, 48, 49] (by decide +kernel) (by decide +kernel)
set_option maxRecDepth 20000 in
theorem gX4_loserOf_X4_has : GoodIn wsX4_loserOf (wsV RX4 49 RX4 yX4_has wsX4_has) := goodIn_app (goodIn_of _ (by decide +kernel)) ggX4_loserOf_X4_has
theorem dX4_loserOf_0 : decode cX4_loserOf 0 = .ok (.aload_n 0, 1) := by decide +kernel
theorem dX4_loserOf_1 : decode cX4_loserOf 1 = .ok (.iload_n 1, 1) := by decide +kernel
theorem dX4_loserOf_2 : decode cX4_loserOf 2 = .ok (.invokevirtual 78, 3) := by decide +kernel
theorem dX4_loserOf_5 : decode cX4_loserOf 5 = .ok (.istore_n 2, 1) := by decide +kernel
theorem dX4_loserOf_6 : decode cX4_loserOf 6 = .ok (.iload_n 1, 1) := by decide +kernel
theorem dX4_loserOf_7 : decode cX4_loserOf 7 = .ok (.bipush 7, 2) := by decide +kernel
theorem dX4_loserOf_9 : decode cX4_loserOf 9 = .ok (.if_icmp .le 10, 3) := by decide +kernel
theorem dX4_loserOf_12 : decode cX4_loserOf 12 = .ok (.iload_n 1, 1) := by decide +kernel
theorem dX4_loserOf_13 : decode cX4_loserOf 13 = .ok (.invokestatic 56, 3) := by decide +kernel
theorem dX4_loserOf_16 : decode cX4_loserOf 16 = .ok (.goto 10, 3) := by decide +kernel
theorem dX4_loserOf_19 : decode cX4_loserOf 19 = .ok (.aload_n 0, 1) := by decide +kernel
theorem dX4_loserOf_20 : decode cX4_loserOf 20 = .ok (.iconst 2, 1) := by decide +kernel
theorem dX4_loserOf_21 : decode cX4_loserOf 21 = .ok (.iload_n 1, 1) := by decide +kernel
theorem dX4_loserOf_22 : decode cX4_loserOf 22 = .ok (.imul, 1) := by decide +kernel
theorem dX4_loserOf_23 : decode cX4_loserOf 23 = .ok (.invokevirtual 78, 3) := by decide +kernel
theorem dX4_loserOf_26 : decode cX4_loserOf 26 = .ok (.istore_n 3, 1) := by decide +kernel
theorem dX4_loserOf_27 : decode cX4_loserOf 27 = .ok (.iload_n 1, 1) := by decide +kernel
theorem dX4_loserOf_28 : decode cX4_loserOf 28 = .ok (.bipush 7, 2) := by decide +kernel
theorem dX4_loserOf_30 : decode cX4_loserOf 30 = .ok (.if_icmp .le 12, 3) := by decide +kernel
theorem dX4_loserOf_33 : decode cX4_loserOf 33 = .ok (.iload_n 1, 1) := by decide +kernel
theorem dX4_loserOf_34 : decode cX4_loserOf 34 = .ok (.invokestatic 56, 3) := by decide +kernel
theorem dX4_loserOf_37 : decode cX4_loserOf 37 = .ok (.iconst 1, 1) := by decide +kernel
theorem dX4_loserOf_38 : decode cX4_loserOf 38 = .ok (.iadd, 1) := by decide +kernel
theorem dX4_loserOf_39 : decode cX4_loserOf 39 = .ok (.goto 12, 3) := by decide +kernel
theorem dX4_loserOf_42 : decode cX4_loserOf 42 = .ok (.aload_n 0, 1) := by decide +kernel
theorem dX4_loserOf_43 : decode cX4_loserOf 43 = .ok (.iconst 2, 1) := by decide +kernel
theorem dX4_loserOf_44 : decode cX4_loserOf 44 = .ok (.iload_n 1, 1) := by decide +kernel
theorem dX4_loserOf_45 : decode cX4_loserOf 45 = .ok (.imul, 1) := by decide +kernel
theorem dX4_loserOf_46 : decode cX4_loserOf 46 = .ok (.iconst 1, 1) := by decide +kernel
theorem dX4_loserOf_47 : decode cX4_loserOf 47 = .ok (.iadd, 1) := by decide +kernel
theorem dX4_loserOf_48 : decode cX4_loserOf 48 = .ok (.invokevirtual 78, 3) := by decide +kernel
theorem dX4_loserOf_51 : decode cX4_loserOf 51 = .ok (.istore 4, 2) := by decide +kernel
theorem dX4_loserOf_53 : decode cX4_loserOf 53 = .ok (.iload_n 2, 1) := by decide +kernel
theorem dX4_loserOf_54 : decode cX4_loserOf 54 = .ok (.iconst (-1), 1) := by decide +kernel
theorem dX4_loserOf_55 : decode cX4_loserOf 55 = .ok (.if_icmp .ne 5, 3) := by decide +kernel
theorem dX4_loserOf_58 : decode cX4_loserOf 58 = .ok (.iconst (-1), 1) := by decide +kernel
theorem dX4_loserOf_59 : decode cX4_loserOf 59 = .ok (.ireturn, 1) := by decide +kernel
theorem dX4_loserOf_60 : decode cX4_loserOf 60 = .ok (.iload_n 2, 1) := by decide +kernel
theorem dX4_loserOf_61 : decode cX4_loserOf 61 = .ok (.iload_n 3, 1) := by decide +kernel
theorem dX4_loserOf_62 : decode cX4_loserOf 62 = .ok (.if_icmp .ne 8, 3) := by decide +kernel
theorem dX4_loserOf_65 : decode cX4_loserOf 65 = .ok (.iload 4, 2) := by decide +kernel
theorem dX4_loserOf_67 : decode cX4_loserOf 67 = .ok (.goto 4, 3) := by decide +kernel
theorem dX4_loserOf_70 : decode cX4_loserOf 70 = .ok (.iload_n 3, 1) := by decide +kernel
theorem dX4_loserOf_71 : decode cX4_loserOf 71 = .ok (.istore 5, 2) := by decide +kernel
theorem dX4_loserOf_73 : decode cX4_loserOf 73 = .ok (.iload 5, 2) := by decide +kernel
theorem dX4_loserOf_75 : decode cX4_loserOf 75 = .ok (.iconst (-1), 1) := by decide +kernel
theorem dX4_loserOf_76 : decode cX4_loserOf 76 = .ok (.if_icmp .eq 17, 3) := by decide +kernel
theorem dX4_loserOf_79 : decode cX4_loserOf 79 = .ok (.aload_n 0, 1) := by decide +kernel
theorem dX4_loserOf_80 : decode cX4_loserOf 80 = .ok (.iload 5, 2) := by decide +kernel
theorem dX4_loserOf_82 : decode cX4_loserOf 82 = .ok (.invokevirtual 49, 3) := by decide +kernel
theorem dX4_loserOf_85 : decode cX4_loserOf 85 = .ok (.ifCond .eq 8, 3) := by decide +kernel
theorem dX4_loserOf_88 : decode cX4_loserOf 88 = .ok (.iload 5, 2) := by decide +kernel
theorem dX4_loserOf_90 : decode cX4_loserOf 90 = .ok (.goto 4, 3) := by decide +kernel
theorem dX4_loserOf_93 : decode cX4_loserOf 93 = .ok (.iconst (-1), 1) := by decide +kernel
theorem dX4_loserOf_94 : decode cX4_loserOf 94 = .ok (.ireturn, 1) := by decide +kernel
set_option maxRecDepth 20000 in
theorem ggX4_contestOf_X4_winnerOf : GoodIn wsX4_contestOf wsX4_winnerOf := goodIn_r _ [9, 10, 11, 12, 8, 13, 14, 15, 16, 17, 18, 19, 20, 21, 22, 23, 1, 24, 25, 26, 27, 28, 29, 30, 47, 48, 49, 50, 51, 52, 53, 54, 55, 56, 57, 58, 59, 60, 61, 62, 63, 64, 65, 66, 67, 68] (by decide +kernel) (by decide +kernel)
set_option maxRecDepth 20000 in
theorem gX4_contestOf_X4_winnerOf : GoodIn wsX4_contestOf (wsV RX4 78 RX4 yX4_winnerOf wsX4_winnerOf) := goodIn_app (goodIn_of _ (by decide +kernel)) ggX4_contestOf_X4_winnerOf
set_option maxRecDepth 20000 in
theorem ggX4_contestOf_X4_loserOf : GoodIn wsX4_contestOf wsX4_loserOf := goodIn_r _ [34, 5, 6, 7, 8, 9, 10, 11, 12, 13, 14, 15, 16, 17, 18, 19, 20, 21, 22, 23, 1, 24, 25, 26, 27, 28, 29, 30, 47, 48, 49, 50, 51, 52, 53, 54, 55, 56, 57, 58, 59, 60, 61, 62, 63, 64, 65, 66, 67, 68] (by decide +kernel) (by decide +kernel)
set_option maxRecDepth 20000 in
theorem gX4_contestOf_X4_loserOf : GoodIn wsX4_contestOf (wsV RX4 187 RX4 yX4_loserOf wsX4_loserOf) := goodIn_app (goodIn_of _ (by decide +kernel)) ggX4_contestOf_X4_loserOf
set_option maxRecDepth 20000 in
theorem ggX4_contestOf_X4_layNext : GoodIn wsX4_contestOf wsX4_layNext := goodIn_r _ [38, 2, 3, 4, 1, 39, 14, 15, 8, 16, 17, 18, 19, 20, 21, 22, 23, 24, 25, 26, 27, 28, 29, 30, 47, 48, 49, 50, 51, 52, 53, 54, 55, 56, 57, 58, 59, 60, 61, 62, 63, 64, 65, 66, 67, 68] (by decide +kernel) (by decide +kernel)
set_option maxRecDepth 20000 in
theorem gX4_contestOf_X4_layNext : GoodIn wsX4_contestOf (wsV RX4 81 RX4 yX4_layNext wsX4_layNext) := goodIn_app (goodIn_of _ (by decide +kernel)) ggX4_contestOf_X4_layNext
set_option maxRecDepth 20000 in
theorem ggX4_contestOf_X4_moment : GoodIn wsX4_contestOf wsX4_moment := goodIn_r _ [43, 1, 44, 45, 8, 46, 47, 48, 49, 50, 51, 52, 53, 54, 55, 56, 57, 58, 59, 60, 61, 62, 63, 64, 65, 66, 67, 68] (by decide +kernel) (by decide +kernel)
set_option maxRecDepth 20000 in
theorem gX4_contestOf_X4_moment : GoodIn wsX4_contestOf (wsV RX4 171 RX4 yX4_moment wsX4_moment) := goodIn_app (goodIn_of _ (by decide +kernel)) ggX4_contestOf_X4_moment
theorem dX4_contestOf_0 : decode cX4_contestOf 0 = .ok (.iload_n 2, 1) := by decide +kernel
theorem dX4_contestOf_1 : decode cX4_contestOf 1 = .ok (.iconst 2, 1) := by decide +kernel
theorem dX4_contestOf_2 : decode cX4_contestOf 2 = .ok (.if_icmp .ge 21, 3) := by decide +kernel
theorem dX4_contestOf_5 : decode cX4_contestOf 5 = .ok (.iload_n 2, 1) := by decide +kernel
theorem dX4_contestOf_6 : decode cX4_contestOf 6 = .ok (.ifCond .ne 11, 3) := by decide +kernel
theorem dX4_contestOf_9 : decode cX4_contestOf 9 = .ok (.aload_n 0, 1) := by decide +kernel
theorem dX4_contestOf_10 : decode cX4_contestOf 10 = .ok (.iload_n 1, 1) := by decide +kernel
theorem dX4_contestOf_11 : decode cX4_contestOf 11 = .ok (.invokevirtual 78, 3) := by decide +kernel
theorem dX4_contestOf_14 : decode cX4_contestOf 14 = .ok (.goto 8, 3) := by decide +kernel
theorem dX4_contestOf_17 : decode cX4_contestOf 17 = .ok (.aload_n 0, 1) := by decide +kernel
theorem dX4_contestOf_18 : decode cX4_contestOf 18 = .ok (.iload_n 1, 1) := by decide +kernel
theorem dX4_contestOf_19 : decode cX4_contestOf 19 = .ok (.invokevirtual 187, 3) := by decide +kernel
theorem dX4_contestOf_22 : decode cX4_contestOf 22 = .ok (.ireturn, 1) := by decide +kernel
theorem dX4_contestOf_23 : decode cX4_contestOf 23 = .ok (.iload_n 2, 1) := by decide +kernel
theorem dX4_contestOf_24 : decode cX4_contestOf 24 = .ok (.iconst 5, 1) := by decide +kernel
theorem dX4_contestOf_25 : decode cX4_contestOf 25 = .ok (.if_icmp .ne 12, 3) := by decide +kernel
theorem dX4_contestOf_28 : decode cX4_contestOf 28 = .ok (.aload_n 0, 1) := by decide +kernel
theorem dX4_contestOf_29 : decode cX4_contestOf 29 = .ok (.getfield 7, 3) := by decide +kernel
theorem dX4_contestOf_32 : decode cX4_contestOf 32 = .ok (.iconst 3, 1) := by decide +kernel
theorem dX4_contestOf_33 : decode cX4_contestOf 33 = .ok (.iload_n 1, 1) := by decide +kernel
theorem dX4_contestOf_34 : decode cX4_contestOf 34 = .ok (.iadd, 1) := by decide +kernel
theorem dX4_contestOf_35 : decode cX4_contestOf 35 = .ok (.iaload, 1) := by decide +kernel
theorem dX4_contestOf_36 : decode cX4_contestOf 36 = .ok (.ireturn, 1) := by decide +kernel
theorem dX4_contestOf_37 : decode cX4_contestOf 37 = .ok (.aload_n 0, 1) := by decide +kernel
theorem dX4_contestOf_38 : decode cX4_contestOf 38 = .ok (.iload_n 1, 1) := by decide +kernel
theorem dX4_contestOf_39 : decode cX4_contestOf 39 = .ok (.aload_n 0, 1) := by decide +kernel
theorem dX4_contestOf_40 : decode cX4_contestOf 40 = .ok (.iload_n 1, 1) := by decide +kernel
theorem dX4_contestOf_41 : decode cX4_contestOf 41 = .ok (.invokevirtual 78, 3) := by decide +kernel
theorem dX4_contestOf_44 : decode cX4_contestOf 44 = .ok (.invokevirtual 81, 3) := by decide +kernel
theorem dX4_contestOf_47 : decode cX4_contestOf 47 = .ok (.iload_n 2, 1) := by decide +kernel
theorem dX4_contestOf_48 : decode cX4_contestOf 48 = .ok (.iconst 4, 1) := by decide +kernel
theorem dX4_contestOf_49 : decode cX4_contestOf 49 = .ok (.if_icmp .ne 10, 3) := by decide +kernel
theorem dX4_contestOf_52 : decode cX4_contestOf 52 = .ok (.aload_n 0, 1) := by decide +kernel
theorem dX4_contestOf_53 : decode cX4_contestOf 53 = .ok (.getfield 67, 3) := by decide +kernel
theorem dX4_contestOf_56 : decode cX4_contestOf 56 = .ok (.goto 18, 3) := by decide +kernel
theorem dX4_contestOf_59 : decode cX4_contestOf 59 = .ok (.aload_n 0, 1) := by decide +kernel
theorem dX4_contestOf_60 : decode cX4_contestOf 60 = .ok (.aload_n 0, 1) := by decide +kernel
theorem dX4_contestOf_61 : decode cX4_contestOf 61 = .ok (.getfield 70, 3) := by decide +kernel
theorem dX4_contestOf_64 : decode cX4_contestOf 64 = .ok (.aload_n 0, 1) := by decide +kernel
theorem dX4_contestOf_65 : decode cX4_contestOf 65 = .ok (.getfield 73, 3) := by decide +kernel
theorem dX4_contestOf_68 : decode cX4_contestOf 68 = .ok (.iload_n 2, 1) := by decide +kernel
theorem dX4_contestOf_69 : decode cX4_contestOf 69 = .ok (.iconst 2, 1) := by decide +kernel
theorem dX4_contestOf_70 : decode cX4_contestOf 70 = .ok (.isub, 1) := by decide +kernel
theorem dX4_contestOf_71 : decode cX4_contestOf 71 = .ok (.invokevirtual 171, 3) := by decide +kernel
theorem dX4_contestOf_74 : decode cX4_contestOf 74 = .ok (.ireturn, 1) := by decide +kernel
set_option maxRecDepth 20000 in
theorem ggX4_contest_X4_in : GoodIn wsX4_contest wsX4_in := goodIn_r _ [5] (by decide +kernel) (by decide +kernel)
set_option maxRecDepth 20000 in
theorem gX4_contest_X4_in : GoodIn wsX4_contest (va_wsS RX4 45 yX4_in wsX4_in) := goodIn_app (goodIn_of _ (by decide +kernel)) ggX4_contest_X4_in
set_option maxRecDepth 20000 in
theorem ggX4_contest_X4_fails : GoodIn wsX4_contest wsX4_fails := goodIn_r _ [9, 1, 59, 60, 61, 62, 63, 64, 65, 66, 67, 68, 69, 70, 71, 72, 73, 74, 75, 76, 77, 78, 79, 80] (by decide +kernel) (by decide +kernel)
set_option maxRecDepth 20000 in
theorem gX4_contest_X4_fails : GoodIn wsX4_contest (wsV RX4 102 RX4 yX4_fails wsX4_fails) := goodIn_app (goodIn_of _ (by decide +kernel)) ggX4_contest_X4_fails
set_option maxRecDepth 20000 in
theorem ggX4_contest_X4_contestOf : GoodIn wsX4_contest wsX4_contestOf := goodIn_r _ [13, 14, 15, 16, 17, 18, 19, 20, 4, 21, 22, 23, 24, 25, 26, 27, 28, 29, 30, 31, 32, 33, 34, 35, 36, 37, 38, 39, 40, 41, 42, 43, 44, 45, 46, 47, 48, 49, 50, 51, 52, 53, 54, 55, 56, 57, 58, 59, 60, 61, 62, 63, 64, 65, 66, 67, 68, 69, 70, 71, 72, 73, 74, 75, 76, 77, 78, 79, 80] (by decide +kernel) (by decide +kernel)
set_option maxRecDepth 20000 in
theorem gX4_contest_X4_contestOf : GoodIn wsX4_contest (wsV RX4 190 RX4 yX4_contestOf wsX4_contestOf) := goodIn_app (goodIn_of _ (by decide +kernel)) ggX4_contest_X4_contestOf
theorem dX4_contest_0 : decode cX4_contest 0 = .ok (.aload_n 0, 1) := by decide +kernel
theorem dX4_contest_1 : decode cX4_contest 1 = .ok (.iconst 0, 1) := by decide +kernel
theorem dX4_contest_2 : decode cX4_contest 2 = .ok (.putfield 34, 3) := by decide +kernel
theorem dX4_contest_5 : decode cX4_contest 5 = .ok (.iload_n 1, 1) := by decide +kernel
theorem dX4_contest_6 : decode cX4_contest 6 = .ok (.iconst 1, 1) := by decide +kernel
theorem dX4_contest_7 : decode cX4_contest 7 = .ok (.bipush 15, 2) := by decide +kernel
theorem dX4_contest_9 : decode cX4_contest 9 = .ok (.invokestatic 45, 3) := by decide +kernel
theorem dX4_contest_12 : decode cX4_contest 12 = .ok (.ifCond .ne 9, 3) := by decide +kernel
theorem dX4_contest_15 : decode cX4_contest 15 = .ok (.aload_n 0, 1) := by decide +kernel
theorem dX4_contest_16 : decode cX4_contest 16 = .ok (.iconst 1, 1) := by decide +kernel
theorem dX4_contest_17 : decode cX4_contest 17 = .ok (.invokevirtual 102, 3) := by decide +kernel
theorem dX4_contest_20 : decode cX4_contest 20 = .ok (.ireturn, 1) := by decide +kernel
theorem dX4_contest_21 : decode cX4_contest 21 = .ok (.iload_n 2, 1) := by decide +kernel
theorem dX4_contest_22 : decode cX4_contest 22 = .ok (.iconst 0, 1) := by decide +kernel
theorem dX4_contest_23 : decode cX4_contest 23 = .ok (.iconst 5, 1) := by decide +kernel
theorem dX4_contest_24 : decode cX4_contest 24 = .ok (.invokestatic 45, 3) := by decide +kernel
theorem dX4_contest_27 : decode cX4_contest 27 = .ok (.ifCond .eq 12, 3) := by decide +kernel
theorem dX4_contest_30 : decode cX4_contest 30 = .ok (.aload_n 0, 1) := by decide +kernel
theorem dX4_contest_31 : decode cX4_contest 31 = .ok (.iload_n 1, 1) := by decide +kernel
theorem dX4_contest_32 : decode cX4_contest 32 = .ok (.iload_n 2, 1) := by decide +kernel
theorem dX4_contest_33 : decode cX4_contest 33 = .ok (.invokevirtual 190, 3) := by decide +kernel
theorem dX4_contest_36 : decode cX4_contest 36 = .ok (.goto 8, 3) := by decide +kernel
theorem dX4_contest_39 : decode cX4_contest 39 = .ok (.aload_n 0, 1) := by decide +kernel
theorem dX4_contest_40 : decode cX4_contest 40 = .ok (.iconst 2, 1) := by decide +kernel
theorem dX4_contest_41 : decode cX4_contest 41 = .ok (.invokevirtual 102, 3) := by decide +kernel
theorem dX4_contest_44 : decode cX4_contest 44 = .ok (.ireturn, 1) := by decide +kernel
set_option maxRecDepth 20000 in
theorem ggX4_turnOf_X4_layFirst : GoodIn wsX4_turnOf wsX4_layFirst := goodIn_r _ [9, 4, 1, 2, 3, 10, 11, 12, 13, 14, 15, 16, 8, 17, 18, 19, 20, 21, 22, 23, 24, 25, 26, 27, 28, 29, 30, 31, 32, 33, 34, 35, 36, 37, 38, 39, 40, 41, 42, 43, 51, 52, 53, 54, 55, 56, 57, 58, 59, 60, 61, 62, 63, 64, 65, 66, 67, 68, 69, 70, 71, 72] (by decide +kernel) (by decide +kernel)
set_option maxRecDepth 20000 in
theorem gX4_turnOf_X4_layFirst : GoodIn wsX4_turnOf (wsV RX4 131 RX4 yX4_layFirst wsX4_layFirst) := goodIn_app (goodIn_of _ (by decide +kernel)) ggX4_turnOf_X4_layFirst
set_option maxRecDepth 20000 in
theorem ggX4_turnOf_X4_moment : GoodIn wsX4_turnOf wsX4_moment := goodIn_r _ [47, 32, 48, 49, 8, 50, 51, 52, 53, 54, 55, 56, 57, 58, 59, 60, 61, 62, 63, 64, 65, 66, 67, 68, 69, 70, 71, 72] (by decide +kernel) (by decide +kernel)
set_option maxRecDepth 20000 in
theorem gX4_turnOf_X4_moment : GoodIn wsX4_turnOf (wsV RX4 171 RX4 yX4_moment wsX4_moment) := goodIn_app (goodIn_of _ (by decide +kernel)) ggX4_turnOf_X4_moment
theorem dX4_turnOf_0 : decode cX4_turnOf 0 = .ok (.aload_n 0, 1) := by decide +kernel
theorem dX4_turnOf_1 : decode cX4_turnOf 1 = .ok (.invokevirtual 131, 3) := by decide +kernel
theorem dX4_turnOf_4 : decode cX4_turnOf 4 = .ok (.iload_n 1, 1) := by decide +kernel
theorem dX4_turnOf_5 : decode cX4_turnOf 5 = .ok (.iconst 2, 1) := by decide +kernel
theorem dX4_turnOf_6 : decode cX4_turnOf 6 = .ok (.if_icmp .ge 19, 3) := by decide +kernel
theorem dX4_turnOf_9 : decode cX4_turnOf 9 = .ok (.aload_n 0, 1) := by decide +kernel
theorem dX4_turnOf_10 : decode cX4_turnOf 10 = .ok (.aload_n 0, 1) := by decide +kernel
theorem dX4_turnOf_11 : decode cX4_turnOf 11 = .ok (.getfield 122, 3) := by decide +kernel
theorem dX4_turnOf_14 : decode cX4_turnOf 14 = .ok (.aload_n 0, 1) := by decide +kernel
theorem dX4_turnOf_15 : decode cX4_turnOf 15 = .ok (.getfield 125, 3) := by decide +kernel
theorem dX4_turnOf_18 : decode cX4_turnOf 18 = .ok (.iload_n 1, 1) := by decide +kernel
theorem dX4_turnOf_19 : decode cX4_turnOf 19 = .ok (.invokevirtual 171, 3) := by decide +kernel
theorem dX4_turnOf_22 : decode cX4_turnOf 22 = .ok (.goto 19, 3) := by decide +kernel
theorem dX4_turnOf_25 : decode cX4_turnOf 25 = .ok (.iload_n 1, 1) := by decide +kernel
theorem dX4_turnOf_26 : decode cX4_turnOf 26 = .ok (.iconst 2, 1) := by decide +kernel
theorem dX4_turnOf_27 : decode cX4_turnOf 27 = .ok (.if_icmp .ne 10, 3) := by decide +kernel
theorem dX4_turnOf_30 : decode cX4_turnOf 30 = .ok (.aload_n 0, 1) := by decide +kernel
theorem dX4_turnOf_31 : decode cX4_turnOf 31 = .ok (.getfield 128, 3) := by decide +kernel
theorem dX4_turnOf_34 : decode cX4_turnOf 34 = .ok (.goto 7, 3) := by decide +kernel
theorem dX4_turnOf_37 : decode cX4_turnOf 37 = .ok (.aload_n 0, 1) := by decide +kernel
theorem dX4_turnOf_38 : decode cX4_turnOf 38 = .ok (.getfield 119, 3) := by decide +kernel
theorem dX4_turnOf_41 : decode cX4_turnOf 41 = .ok (.ireturn, 1) := by decide +kernel
set_option maxRecDepth 20000 in
theorem ggX4_nextTurn_X4_in : GoodIn wsX4_nextTurn wsX4_in := goodIn_r _ [5] (by decide +kernel) (by decide +kernel)
set_option maxRecDepth 20000 in
theorem gX4_nextTurn_X4_in : GoodIn wsX4_nextTurn (va_wsS RX4 45 yX4_in wsX4_in) := goodIn_app (goodIn_of _ (by decide +kernel)) ggX4_nextTurn_X4_in
set_option maxRecDepth 20000 in
theorem ggX4_nextTurn_X4_turnOf : GoodIn wsX4_nextTurn wsX4_turnOf := goodIn_r _ [9, 10, 11, 12, 13, 14, 15, 16, 4, 17, 18, 19, 20, 21, 22, 23, 24, 25, 26, 27, 28, 29, 30, 31, 32, 33, 34, 35, 36, 37, 38, 39, 40, 41, 42, 43, 44, 45, 46, 47, 48, 49, 50, 51, 52, 53, 54, 55, 56, 57, 58, 63, 64, 65, 66, 67, 68, 69, 70, 71, 72, 73, 74, 75, 76, 77, 78, 79, 80, 81, 82, 83, 84] (by decide +kernel) (by decide +kernel)
set_option maxRecDepth 20000 in
theorem gX4_nextTurn_X4_turnOf : GoodIn wsX4_nextTurn (wsV RX4 193 RX4 yX4_turnOf wsX4_turnOf) := goodIn_app (goodIn_of _ (by decide +kernel)) ggX4_nextTurn_X4_turnOf
set_option maxRecDepth 20000 in
theorem ggX4_nextTurn_X4_fails : GoodIn wsX4_nextTurn wsX4_fails := goodIn_r _ [62, 1, 63, 64, 65, 66, 67, 68, 69, 70, 71, 72, 73, 74, 75, 76, 77, 78, 79, 80, 81, 82, 83, 84] (by decide +kernel) (by decide +kernel)
set_option maxRecDepth 20000 in
theorem gX4_nextTurn_X4_fails : GoodIn wsX4_nextTurn (wsV RX4 102 RX4 yX4_fails wsX4_fails) := goodIn_app (goodIn_of _ (by decide +kernel)) ggX4_nextTurn_X4_fails
theorem dX4_nextTurn_0 : decode cX4_nextTurn 0 = .ok (.aload_n 0, 1) := by decide +kernel
theorem dX4_nextTurn_1 : decode cX4_nextTurn 1 = .ok (.iconst 0, 1) := by decide +kernel
theorem dX4_nextTurn_2 : decode cX4_nextTurn 2 = .ok (.putfield 34, 3) := by decide +kernel
theorem dX4_nextTurn_5 : decode cX4_nextTurn 5 = .ok (.iload_n 1, 1) := by decide +kernel
theorem dX4_nextTurn_6 : decode cX4_nextTurn 6 = .ok (.iconst 0, 1) := by decide +kernel
theorem dX4_nextTurn_7 : decode cX4_nextTurn 7 = .ok (.iconst 3, 1) := by decide +kernel
theorem dX4_nextTurn_8 : decode cX4_nextTurn 8 = .ok (.invokestatic 45, 3) := by decide +kernel
theorem dX4_nextTurn_11 : decode cX4_nextTurn 11 = .ok (.ifCond .eq 11, 3) := by decide +kernel
theorem dX4_nextTurn_14 : decode cX4_nextTurn 14 = .ok (.aload_n 0, 1) := by decide +kernel
theorem dX4_nextTurn_15 : decode cX4_nextTurn 15 = .ok (.iload_n 1, 1) := by decide +kernel
theorem dX4_nextTurn_16 : decode cX4_nextTurn 16 = .ok (.invokevirtual 193, 3) := by decide +kernel
theorem dX4_nextTurn_19 : decode cX4_nextTurn 19 = .ok (.goto 8, 3) := by decide +kernel
theorem dX4_nextTurn_22 : decode cX4_nextTurn 22 = .ok (.aload_n 0, 1) := by decide +kernel
theorem dX4_nextTurn_23 : decode cX4_nextTurn 23 = .ok (.iconst 1, 1) := by decide +kernel
theorem dX4_nextTurn_24 : decode cX4_nextTurn 24 = .ok (.invokevirtual 102, 3) := by decide +kernel
theorem dX4_nextTurn_27 : decode cX4_nextTurn 27 = .ok (.ireturn, 1) := by decide +kernel
set_option maxRecDepth 20000 in
theorem ggX4_spanTold_X4_moment : GoodIn wsX4_spanTold wsX4_moment := goodIn_r _ [8, 9, 10, 11, 7, 12, 13, 14, 15, 16, 17, 18, 19, 20, 21, 22, 23, 24, 25, 26, 27, 28, 29, 30, 31, 32, 33, 34] (by decide +kernel) (by decide +kernel)
set_option maxRecDepth 20000 in
theorem gX4_spanTold_X4_moment : GoodIn wsX4_spanTold (wsV RX4 171 RX4 yX4_moment wsX4_moment) := goodIn_app (goodIn_of _ (by decide +kernel)) ggX4_spanTold_X4_moment
theorem dX4_spanTold_0 : decode cX4_spanTold 0 = .ok (.iload_n 2, 1) := by decide +kernel
theorem dX4_spanTold_1 : decode cX4_spanTold 1 = .ok (.ifCond .ne 12, 3) := by decide +kernel
theorem dX4_spanTold_4 : decode cX4_spanTold 4 = .ok (.aload_n 0, 1) := by decide +kernel
theorem dX4_spanTold_5 : decode cX4_spanTold 5 = .ok (.getfield 25, 3) := by decide +kernel
theorem dX4_spanTold_8 : decode cX4_spanTold 8 = .ok (.iload_n 1, 1) := by decide +kernel
theorem dX4_spanTold_9 : decode cX4_spanTold 9 = .ok (.iaload, 1) := by decide +kernel
theorem dX4_spanTold_10 : decode cX4_spanTold 10 = .ok (.goto 22, 3) := by decide +kernel
theorem dX4_spanTold_13 : decode cX4_spanTold 13 = .ok (.aload_n 0, 1) := by decide +kernel
theorem dX4_spanTold_14 : decode cX4_spanTold 14 = .ok (.aload_n 0, 1) := by decide +kernel
theorem dX4_spanTold_15 : decode cX4_spanTold 15 = .ok (.getfield 28, 3) := by decide +kernel
theorem dX4_spanTold_18 : decode cX4_spanTold 18 = .ok (.iload_n 1, 1) := by decide +kernel
theorem dX4_spanTold_19 : decode cX4_spanTold 19 = .ok (.iaload, 1) := by decide +kernel
theorem dX4_spanTold_20 : decode cX4_spanTold 20 = .ok (.aload_n 0, 1) := by decide +kernel
theorem dX4_spanTold_21 : decode cX4_spanTold 21 = .ok (.getfield 31, 3) := by decide +kernel
theorem dX4_spanTold_24 : decode cX4_spanTold 24 = .ok (.iload_n 1, 1) := by decide +kernel
theorem dX4_spanTold_25 : decode cX4_spanTold 25 = .ok (.iaload, 1) := by decide +kernel
theorem dX4_spanTold_26 : decode cX4_spanTold 26 = .ok (.iload_n 2, 1) := by decide +kernel
theorem dX4_spanTold_27 : decode cX4_spanTold 27 = .ok (.iconst 1, 1) := by decide +kernel
theorem dX4_spanTold_28 : decode cX4_spanTold 28 = .ok (.isub, 1) := by decide +kernel
theorem dX4_spanTold_29 : decode cX4_spanTold 29 = .ok (.invokevirtual 171, 3) := by decide +kernel
theorem dX4_spanTold_32 : decode cX4_spanTold 32 = .ok (.ireturn, 1) := by decide +kernel
set_option maxRecDepth 20000 in
theorem ggX4_span_X4_in : GoodIn wsX4_span wsX4_in := goodIn_r _ [6] (by decide +kernel) (by decide +kernel)
set_option maxRecDepth 20000 in
theorem gX4_span_X4_in : GoodIn wsX4_span (va_wsS RX4 45 yX4_in wsX4_in) := goodIn_app (goodIn_of _ (by decide +kernel)) ggX4_span_X4_in
set_option maxRecDepth 20000 in
theorem ggX4_span_X4_fails : GoodIn wsX4_span wsX4_fails := goodIn_r _ [10, 1, 63, 64, 65, 66, 67, 68, 69, 70, 71, 72, 73, 74, 75, 76, 77, 78, 79, 80, 81, 82, 83, 84] (by decide +kernel) (by decide +kernel)
set_option maxRecDepth 20000 in
theorem gX4_span_X4_fails : GoodIn wsX4_span (wsV RX4 102 RX4 yX4_fails wsX4_fails) := goodIn_app (goodIn_of _ (by decide +kernel)) ggX4_span_X4_fails
set_option maxRecDepth 20000 in
theorem ggX4_span_X4_laySpans : GoodIn wsX4_span wsX4_laySpans := goodIn_r _ [14, 2, 15, 16, 17, 18, 19, 20, 21, 22, 23, 5, 24, 25, 26, 27, 28, 29, 30, 31, 32, 33, 34, 35, 36, 37, 38, 39, 40, 41, 42, 43, 44, 45, 46, 47, 48, 49, 50, 51, 63, 64, 65, 66, 67, 68, 69, 70, 71, 72, 73, 74, 75, 76, 77, 78, 79, 80, 81, 82, 83, 84] (by decide +kernel) (by decide +kernel)
set_option maxRecDepth 20000 in
theorem gX4_span_X4_laySpans : GoodIn wsX4_span (wsV RX4 165 RX4 yX4_laySpans wsX4_laySpans) := goodIn_app (goodIn_of _ (by decide +kernel)) ggX4_span_X4_laySpans
set_option maxRecDepth 20000 in
theorem ggX4_span_X4_spanTold : GoodIn wsX4_span wsX4_spanTold := goodIn_r _ [55, 18, 19, 20, 56, 57, 58, 5, 59, 39, 60, 61, 62, 63, 64, 65, 66, 67, 68, 69, 70, 71, 72, 73, 74, 75, 76, 77, 78, 79, 80, 81, 82, 83, 84] (by decide +kernel) (by decide +kernel)
set_option maxRecDepth 20000 in
theorem gX4_span_X4_spanTold : GoodIn wsX4_span (wsV RX4 196 RX4 yX4_spanTold wsX4_spanTold) := goodIn_app (goodIn_of _ (by decide +kernel)) ggX4_span_X4_spanTold
theorem dX4_span_0 : decode cX4_span 0 = .ok (.aload_n 0, 1) := by decide +kernel
theorem dX4_span_1 : decode cX4_span 1 = .ok (.iconst 0, 1) := by decide +kernel
theorem dX4_span_2 : decode cX4_span 2 = .ok (.putfield 34, 3) := by decide +kernel
theorem dX4_span_5 : decode cX4_span 5 = .ok (.iload_n 1, 1) := by decide +kernel
theorem dX4_span_6 : decode cX4_span 6 = .ok (.ifCond .lt 12, 3) := by decide +kernel
theorem dX4_span_9 : decode cX4_span 9 = .ok (.iload_n 2, 1) := by decide +kernel
theorem dX4_span_10 : decode cX4_span 10 = .ok (.iconst 0, 1) := by decide +kernel
theorem dX4_span_11 : decode cX4_span 11 = .ok (.iconst 2, 1) := by decide +kernel
theorem dX4_span_12 : decode cX4_span 12 = .ok (.invokestatic 45, 3) := by decide +kernel
theorem dX4_span_15 : decode cX4_span 15 = .ok (.ifCond .ne 9, 3) := by decide +kernel
theorem dX4_span_18 : decode cX4_span 18 = .ok (.aload_n 0, 1) := by decide +kernel
theorem dX4_span_19 : decode cX4_span 19 = .ok (.iconst 1, 1) := by decide +kernel
theorem dX4_span_20 : decode cX4_span 20 = .ok (.invokevirtual 102, 3) := by decide +kernel
theorem dX4_span_23 : decode cX4_span 23 = .ok (.ireturn, 1) := by decide +kernel
theorem dX4_span_24 : decode cX4_span 24 = .ok (.aload_n 0, 1) := by decide +kernel
theorem dX4_span_25 : decode cX4_span 25 = .ok (.invokevirtual 165, 3) := by decide +kernel
theorem dX4_span_28 : decode cX4_span 28 = .ok (.iload_n 1, 1) := by decide +kernel
theorem dX4_span_29 : decode cX4_span 29 = .ok (.aload_n 0, 1) := by decide +kernel
theorem dX4_span_30 : decode cX4_span 30 = .ok (.getfield 162, 3) := by decide +kernel
theorem dX4_span_33 : decode cX4_span 33 = .ok (.if_icmp .ge 12, 3) := by decide +kernel
theorem dX4_span_36 : decode cX4_span 36 = .ok (.aload_n 0, 1) := by decide +kernel
theorem dX4_span_37 : decode cX4_span 37 = .ok (.iload_n 1, 1) := by decide +kernel
theorem dX4_span_38 : decode cX4_span 38 = .ok (.iload_n 2, 1) := by decide +kernel
theorem dX4_span_39 : decode cX4_span 39 = .ok (.invokevirtual 196, 3) := by decide +kernel
theorem dX4_span_42 : decode cX4_span 42 = .ok (.goto 4, 3) := by decide +kernel
theorem dX4_span_45 : decode cX4_span 45 = .ok (.iconst (-1), 1) := by decide +kernel
theorem dX4_span_46 : decode cX4_span 46 = .ok (.ireturn, 1) := by decide +kernel
theorem dX4_turnsSoFar_0 : decode cX4_turnsSoFar 0 = .ok (.iconst 0, 1) := by decide +kernel
theorem dX4_turnsSoFar_1 : decode cX4_turnsSoFar 1 = .ok (.istore_n 1, 1) := by decide +kernel
theorem dX4_turnsSoFar_2 : decode cX4_turnsSoFar 2 = .ok (.iconst 1, 1) := by decide +kernel
theorem dX4_turnsSoFar_3 : decode cX4_turnsSoFar 3 = .ok (.istore_n 2, 1) := by decide +kernel
theorem dX4_turnsSoFar_4 : decode cX4_turnsSoFar 4 = .ok (.iload_n 2, 1) := by decide +kernel
theorem dX4_turnsSoFar_5 : decode cX4_turnsSoFar 5 = .ok (.bipush 15, 2) := by decide +kernel
theorem dX4_turnsSoFar_7 : decode cX4_turnsSoFar 7 = .ok (.if_icmp .gt 20, 3) := by decide +kernel
theorem dX4_turnsSoFar_10 : decode cX4_turnsSoFar 10 = .ok (.iload_n 1, 1) := by decide +kernel
theorem dX4_turnsSoFar_11 : decode cX4_turnsSoFar 11 = .ok (.aload_n 0, 1) := by decide +kernel
theorem dX4_turnsSoFar_12 : decode cX4_turnsSoFar 12 = .ok (.getfield 7, 3) := by decide +kernel
theorem dX4_turnsSoFar_15 : decode cX4_turnsSoFar 15 = .ok (.iconst 3, 1) := by decide +kernel
theorem dX4_turnsSoFar_16 : decode cX4_turnsSoFar 16 = .ok (.iload_n 2, 1) := by decide +kernel
theorem dX4_turnsSoFar_17 : decode cX4_turnsSoFar 17 = .ok (.iadd, 1) := by decide +kernel
theorem dX4_turnsSoFar_18 : decode cX4_turnsSoFar 18 = .ok (.iaload, 1) := by decide +kernel
theorem dX4_turnsSoFar_19 : decode cX4_turnsSoFar 19 = .ok (.iadd, 1) := by decide +kernel
theorem dX4_turnsSoFar_20 : decode cX4_turnsSoFar 20 = .ok (.istore_n 1, 1) := by decide +kernel
theorem dX4_turnsSoFar_21 : decode cX4_turnsSoFar 21 = .ok (.iinc 2 1, 3) := by decide +kernel
theorem dX4_turnsSoFar_24 : decode cX4_turnsSoFar 24 = .ok (.goto (-20), 3) := by decide +kernel
theorem dX4_turnsSoFar_27 : decode cX4_turnsSoFar 27 = .ok (.iload_n 1, 1) := by decide +kernel
theorem dX4_turnsSoFar_28 : decode cX4_turnsSoFar 28 = .ok (.ireturn, 1) := by decide +kernel
set_option maxRecDepth 20000 in
theorem ggX4_counted_X4_laySpans : GoodIn wsX4_counted wsX4_laySpans := goodIn_r _ [8, 2, 9, 10, 11, 12, 13, 14, 15, 16, 17, 7, 18, 19, 20, 21, 22, 23, 24, 25, 26, 27, 28, 29, 30, 31, 32, 1, 33, 34, 35, 36, 37, 38, 39, 40, 41, 42, 43, 44, 53, 54, 55, 56, 57, 58, 59, 60, 61, 62, 63, 64, 65, 66, 67, 68, 69, 70, 71, 72, 73, 74] (by decide +kernel) (by decide +kernel)
set_option maxRecDepth 20000 in
theorem gX4_counted_X4_laySpans : GoodIn wsX4_counted (wsV RX4 165 RX4 yX4_laySpans wsX4_laySpans) := goodIn_app (goodIn_of _ (by decide +kernel)) ggX4_counted_X4_laySpans
set_option maxRecDepth 20000 in
theorem ggX4_counted_X4_movers : GoodIn wsX4_counted wsX4_movers := goodIn_r _ [48, 1, 33, 34, 7, 35, 53, 54, 55, 56, 57, 58, 59, 60, 61, 62, 63, 64, 65, 66, 67, 68, 69, 70, 71, 72, 73, 74] (by decide +kernel) (by decide +kernel)
set_option maxRecDepth 20000 in
theorem gX4_counted_X4_movers : GoodIn wsX4_counted (wsV RX4 159 RX4 yX4_movers wsX4_movers) := goodIn_app (goodIn_of _ (by decide +kernel)) ggX4_counted_X4_movers
set_option maxRecDepth 20000 in
theorem ggX4_counted_X4_turnsSoFar : GoodIn wsX4_counted wsX4_turnsSoFar := goodIn_r _ [52, 1, 53, 54, 55, 56, 57, 58, 59, 60, 61, 62, 63, 64, 65, 66, 67, 68, 69, 70, 71, 72, 73, 74] (by decide +kernel) (by decide +kernel)
set_option maxRecDepth 20000 in
theorem gX4_counted_X4_turnsSoFar : GoodIn wsX4_counted (wsV RX4 199 RX4 yX4_turnsSoFar wsX4_turnsSoFar) := goodIn_app (goodIn_of _ (by decide +kernel)) ggX4_counted_X4_turnsSoFar
theorem dX4_counted_0 : decode cX4_counted 0 = .ok (.aload_n 0, 1) := by decide +kernel
theorem dX4_counted_1 : decode cX4_counted 1 = .ok (.invokevirtual 165, 3) := by decide +kernel
theorem dX4_counted_4 : decode cX4_counted 4 = .ok (.iload_n 1, 1) := by decide +kernel
theorem dX4_counted_5 : decode cX4_counted 5 = .ok (.tableswitch 78 0 5 #[39, 46, 51, 56, 61, 68], 39) := by decide +kernel
theorem dX4_counted_44 : decode cX4_counted 44 = .ok (.aload_n 0, 1) := by decide +kernel
theorem dX4_counted_45 : decode cX4_counted 45 = .ok (.getfield 7, 3) := by decide +kernel
theorem dX4_counted_48 : decode cX4_counted 48 = .ok (.iconst 0, 1) := by decide +kernel
theorem dX4_counted_49 : decode cX4_counted 49 = .ok (.iaload, 1) := by decide +kernel
theorem dX4_counted_50 : decode cX4_counted 50 = .ok (.ireturn, 1) := by decide +kernel
theorem dX4_counted_51 : decode cX4_counted 51 = .ok (.aload_n 0, 1) := by decide +kernel
theorem dX4_counted_52 : decode cX4_counted 52 = .ok (.invokevirtual 159, 3) := by decide +kernel
theorem dX4_counted_55 : decode cX4_counted 55 = .ok (.ireturn, 1) := by decide +kernel
theorem dX4_counted_56 : decode cX4_counted 56 = .ok (.aload_n 0, 1) := by decide +kernel
theorem dX4_counted_57 : decode cX4_counted 57 = .ok (.getfield 162, 3) := by decide +kernel
theorem dX4_counted_60 : decode cX4_counted 60 = .ok (.ireturn, 1) := by decide +kernel
theorem dX4_counted_61 : decode cX4_counted 61 = .ok (.aload_n 0, 1) := by decide +kernel
theorem dX4_counted_62 : decode cX4_counted 62 = .ok (.invokevirtual 199, 3) := by decide +kernel
theorem dX4_counted_65 : decode cX4_counted 65 = .ok (.ireturn, 1) := by decide +kernel
theorem dX4_counted_66 : decode cX4_counted 66 = .ok (.aload_n 0, 1) := by decide +kernel
theorem dX4_counted_67 : decode cX4_counted 67 = .ok (.getfield 7, 3) := by decide +kernel
theorem dX4_counted_70 : decode cX4_counted 70 = .ok (.iconst 4, 1) := by decide +kernel
theorem dX4_counted_71 : decode cX4_counted 71 = .ok (.iaload, 1) := by decide +kernel
theorem dX4_counted_72 : decode cX4_counted 72 = .ok (.ireturn, 1) := by decide +kernel
theorem dX4_counted_73 : decode cX4_counted 73 = .ok (.aload_n 0, 1) := by decide +kernel
theorem dX4_counted_74 : decode cX4_counted 74 = .ok (.invokevirtual 159, 3) := by decide +kernel
theorem dX4_counted_77 : decode cX4_counted 77 = .ok (.aload_n 0, 1) := by decide +kernel
theorem dX4_counted_78 : decode cX4_counted 78 = .ok (.getfield 162, 3) := by decide +kernel
theorem dX4_counted_81 : decode cX4_counted 81 = .ok (.isub, 1) := by decide +kernel
theorem dX4_counted_82 : decode cX4_counted 82 = .ok (.ireturn, 1) := by decide +kernel
theorem dX4_counted_83 : decode cX4_counted 83 = .ok (.aload_n 0, 1) := by decide +kernel
theorem dX4_counted_84 : decode cX4_counted 84 = .ok (.getfield 38, 3) := by decide +kernel
theorem dX4_counted_87 : decode cX4_counted 87 = .ok (.ireturn, 1) := by decide +kernel
set_option maxRecDepth 20000 in
theorem ggX4_count_X4_in : GoodIn wsX4_count wsX4_in := goodIn_r _ [5] (by decide +kernel) (by decide +kernel)
set_option maxRecDepth 20000 in
theorem gX4_count_X4_in : GoodIn wsX4_count (va_wsS RX4 45 yX4_in wsX4_in) := goodIn_app (goodIn_of _ (by decide +kernel)) ggX4_count_X4_in
set_option maxRecDepth 20000 in
theorem ggX4_count_X4_counted : GoodIn wsX4_count wsX4_counted := goodIn_r _ [9, 10, 11, 12, 13, 14, 15, 4, 16, 17, 18, 19, 20, 21, 22, 23, 24, 25, 26, 27, 28, 29, 30, 31, 32, 33, 34, 35, 36, 37, 38, 39, 40, 41, 42, 43, 44, 45, 46, 47, 48, 49, 50, 51, 52, 53, 54, 55, 56, 57, 58, 59, 60, 65, 66, 67, 68, 69, 70, 71, 72, 73, 74, 75, 76, 77, 78, 79, 80, 81, 82, 83, 84, 85, 86] (by decide +kernel) (by decide +kernel)
set_option maxRecDepth 20000 in
theorem gX4_count_X4_counted : GoodIn wsX4_count (wsV RX4 202 RX4 yX4_counted wsX4_counted) := goodIn_app (goodIn_of _ (by decide +kernel)) ggX4_count_X4_counted
set_option maxRecDepth 20000 in
theorem ggX4_count_X4_fails : GoodIn wsX4_count wsX4_fails := goodIn_r _ [64, 1, 65, 66, 67, 68, 69, 70, 71, 72, 73, 74, 75, 76, 77, 78, 79, 80, 81, 82, 83, 84, 85, 86] (by decide +kernel) (by decide +kernel)
set_option maxRecDepth 20000 in
theorem gX4_count_X4_fails : GoodIn wsX4_count (wsV RX4 102 RX4 yX4_fails wsX4_fails) := goodIn_app (goodIn_of _ (by decide +kernel)) ggX4_count_X4_fails
theorem dX4_count_0 : decode cX4_count 0 = .ok (.aload_n 0, 1) := by decide +kernel
theorem dX4_count_1 : decode cX4_count 1 = .ok (.iconst 0, 1) := by decide +kernel
theorem dX4_count_2 : decode cX4_count 2 = .ok (.putfield 34, 3) := by decide +kernel
theorem dX4_count_5 : decode cX4_count 5 = .ok (.iload_n 1, 1) := by decide +kernel
theorem dX4_count_6 : decode cX4_count 6 = .ok (.iconst 0, 1) := by decide +kernel
theorem dX4_count_7 : decode cX4_count 7 = .ok (.bipush 6, 2) := by decide +kernel
theorem dX4_count_9 : decode cX4_count 9 = .ok (.invokestatic 45, 3) := by decide +kernel
theorem dX4_count_12 : decode cX4_count 12 = .ok (.ifCond .eq 11, 3) := by decide +kernel
theorem dX4_count_15 : decode cX4_count 15 = .ok (.aload_n 0, 1) := by decide +kernel
theorem dX4_count_16 : decode cX4_count 16 = .ok (.iload_n 1, 1) := by decide +kernel
theorem dX4_count_17 : decode cX4_count 17 = .ok (.invokevirtual 202, 3) := by decide +kernel
theorem dX4_count_20 : decode cX4_count 20 = .ok (.goto 8, 3) := by decide +kernel
theorem dX4_count_23 : decode cX4_count 23 = .ok (.aload_n 0, 1) := by decide +kernel
theorem dX4_count_24 : decode cX4_count 24 = .ok (.iconst 1, 1) := by decide +kernel
theorem dX4_count_25 : decode cX4_count 25 = .ok (.invokevirtual 102, 3) := by decide +kernel
theorem dX4_count_28 : decode cX4_count 28 = .ok (.ireturn, 1) := by decide +kernel
set_option maxRecDepth 20000 in
theorem ggX4_setting_X4_in : GoodIn wsX4_setting wsX4_in := goodIn_r _ [6] (by decide +kernel) (by decide +kernel)
set_option maxRecDepth 20000 in
theorem gX4_setting_X4_in : GoodIn wsX4_setting (va_wsS RX4 45 yX4_in wsX4_in) := goodIn_app (goodIn_of _ (by decide +kernel)) ggX4_setting_X4_in
set_option maxRecDepth 20000 in
theorem ggX4_setting_X4_fails : GoodIn wsX4_setting wsX4_fails := goodIn_r _ [10, 1, 11, 12, 13, 14, 15, 16, 17, 18, 19, 20, 21, 22, 23, 24, 25, 26, 27, 28, 29, 30, 31, 32] (by decide +kernel) (by decide +kernel)
set_option maxRecDepth 20000 in
theorem gX4_setting_X4_fails : GoodIn wsX4_setting (wsV RX4 102 RX4 yX4_fails wsX4_fails) := goodIn_app (goodIn_of _ (by decide +kernel)) ggX4_setting_X4_fails
theorem dX4_setting_0 : decode cX4_setting 0 = .ok (.aload_n 0, 1) := by decide +kernel
theorem dX4_setting_1 : decode cX4_setting 1 = .ok (.iconst 0, 1) := by decide +kernel
theorem dX4_setting_2 : decode cX4_setting 2 = .ok (.putfield 34, 3) := by decide +kernel
theorem dX4_setting_5 : decode cX4_setting 5 = .ok (.iload_n 1, 1) := by decide +kernel
theorem dX4_setting_6 : decode cX4_setting 6 = .ok (.iconst 0, 1) := by decide +kernel
theorem dX4_setting_7 : decode cX4_setting 7 = .ok (.iconst 1, 1) := by decide +kernel
theorem dX4_setting_8 : decode cX4_setting 8 = .ok (.invokestatic 45, 3) := by decide +kernel
theorem dX4_setting_11 : decode cX4_setting 11 = .ok (.ifCond .eq 14, 3) := by decide +kernel
theorem dX4_setting_14 : decode cX4_setting 14 = .ok (.aload_n 0, 1) := by decide +kernel
theorem dX4_setting_15 : decode cX4_setting 15 = .ok (.getfield 7, 3) := by decide +kernel
theorem dX4_setting_18 : decode cX4_setting 18 = .ok (.iconst 1, 1) := by decide +kernel
theorem dX4_setting_19 : decode cX4_setting 19 = .ok (.iload_n 1, 1) := by decide +kernel
theorem dX4_setting_20 : decode cX4_setting 20 = .ok (.iadd, 1) := by decide +kernel
theorem dX4_setting_21 : decode cX4_setting 21 = .ok (.iaload, 1) := by decide +kernel
theorem dX4_setting_22 : decode cX4_setting 22 = .ok (.goto 8, 3) := by decide +kernel
theorem dX4_setting_25 : decode cX4_setting 25 = .ok (.aload_n 0, 1) := by decide +kernel
theorem dX4_setting_26 : decode cX4_setting 26 = .ok (.iconst 1, 1) := by decide +kernel
theorem dX4_setting_27 : decode cX4_setting 27 = .ok (.invokevirtual 102, 3) := by decide +kernel
theorem dX4_setting_30 : decode cX4_setting 30 = .ok (.ireturn, 1) := by decide +kernel
set_option maxRecDepth 20000 in
theorem ggX4_leaderAfter_X4_in : GoodIn wsX4_leaderAfter wsX4_in := goodIn_r _ [5] (by decide +kernel) (by decide +kernel)
set_option maxRecDepth 20000 in
theorem gX4_leaderAfter_X4_in : GoodIn wsX4_leaderAfter (va_wsS RX4 45 yX4_in wsX4_in) := goodIn_app (goodIn_of _ (by decide +kernel)) ggX4_leaderAfter_X4_in
set_option maxRecDepth 20000 in
theorem ggX4_leaderAfter_X4_winnerAt : GoodIn wsX4_leaderAfter wsX4_winnerAt := goodIn_r _ [9, 10, 11, 4, 12, 13, 14, 15, 16, 17, 18, 19, 20, 21, 22, 23, 24, 25, 26, 27, 32, 33, 34, 35, 36, 37, 38, 39, 40, 41, 42, 43, 44, 45, 46, 47, 48, 49, 50, 51, 52, 53] (by decide +kernel) (by decide +kernel)
set_option maxRecDepth 20000 in
theorem gX4_leaderAfter_X4_winnerAt : GoodIn wsX4_leaderAfter (wsV RX4 63 RX4 yX4_winnerAt wsX4_winnerAt) := goodIn_app (goodIn_of _ (by decide +kernel)) ggX4_leaderAfter_X4_winnerAt
set_option maxRecDepth 20000 in
theorem ggX4_leaderAfter_X4_fails : GoodIn wsX4_leaderAfter wsX4_fails := goodIn_r _ [31, 1, 32, 33, 34, 35, 36, 37, 38, 39, 40, 41, 42, 43, 44, 45, 46, 47, 48, 49, 50, 51, 52, 53] (by decide +kernel) (by decide +kernel)
set_option maxRecDepth 20000 in
theorem gX4_leaderAfter_X4_fails : GoodIn wsX4_leaderAfter (wsV RX4 102 RX4 yX4_fails wsX4_fails) := goodIn_app (goodIn_of _ (by decide +kernel)) ggX4_leaderAfter_X4_fails
theorem dX4_leaderAfter_0 : decode cX4_leaderAfter 0 = .ok (.aload_n 0, 1) := by decide +kernel
theorem dX4_leaderAfter_1 : decode cX4_leaderAfter 1 = .ok (.iconst 0, 1) := by decide +kernel
theorem dX4_leaderAfter_2 : decode cX4_leaderAfter 2 = .ok (.putfield 34, 3) := by decide +kernel
theorem dX4_leaderAfter_5 : decode cX4_leaderAfter 5 = .ok (.iload_n 1, 1) := by decide +kernel
theorem dX4_leaderAfter_6 : decode cX4_leaderAfter 6 = .ok (.iconst 0, 1) := by decide +kernel
theorem dX4_leaderAfter_7 : decode cX4_leaderAfter 7 = .ok (.sipush 9999, 3) := by decide +kernel
theorem dX4_leaderAfter_10 : decode cX4_leaderAfter 10 = .ok (.invokestatic 45, 3) := by decide +kernel
theorem dX4_leaderAfter_13 : decode cX4_leaderAfter 13 = .ok (.ifCond .eq 14, 3) := by decide +kernel
theorem dX4_leaderAfter_16 : decode cX4_leaderAfter 16 = .ok (.aload_n 0, 1) := by decide +kernel
theorem dX4_leaderAfter_17 : decode cX4_leaderAfter 17 = .ok (.iconst 1, 1) := by decide +kernel
theorem dX4_leaderAfter_18 : decode cX4_leaderAfter 18 = .ok (.iload_n 1, 1) := by decide +kernel
theorem dX4_leaderAfter_19 : decode cX4_leaderAfter 19 = .ok (.i2l, 1) := by decide +kernel
theorem dX4_leaderAfter_20 : decode cX4_leaderAfter 20 = .ok (.lconst 1, 1) := by decide +kernel
theorem dX4_leaderAfter_21 : decode cX4_leaderAfter 21 = .ok (.invokevirtual 63, 3) := by decide +kernel
theorem dX4_leaderAfter_24 : decode cX4_leaderAfter 24 = .ok (.goto 8, 3) := by decide +kernel
theorem dX4_leaderAfter_27 : decode cX4_leaderAfter 27 = .ok (.aload_n 0, 1) := by decide +kernel
theorem dX4_leaderAfter_28 : decode cX4_leaderAfter 28 = .ok (.iconst 1, 1) := by decide +kernel
theorem dX4_leaderAfter_29 : decode cX4_leaderAfter 29 = .ok (.invokevirtual 102, 3) := by decide +kernel
theorem dX4_leaderAfter_32 : decode cX4_leaderAfter 32 = .ok (.ireturn, 1) := by decide +kernel
set_option maxRecDepth 20000 in
theorem ggX4_overtakeOf_X4_isAhead : GoodIn wsX4_overtakeOf wsX4_isAhead := goodIn_r _ [6, 1, 7, 8, 5, 9, 17, 18, 19, 20, 21, 22, 23, 24, 25, 26, 27, 28, 29, 30, 31, 32, 33, 34, 35, 36, 37, 38] (by decide +kernel) (by decide +kernel)
set_option maxRecDepth 20000 in
theorem gX4_overtakeOf_X4_isAhead : GoodIn wsX4_overtakeOf (wsV RX4 59 RX4 yX4_isAhead wsX4_isAhead) := goodIn_app (goodIn_of _ (by decide +kernel)) ggX4_overtakeOf_X4_isAhead
set_option maxRecDepth 20000 in
theorem ggX4_overtakeOf_X4_moment : GoodIn wsX4_overtakeOf wsX4_moment := goodIn_r _ [13, 1, 14, 15, 5, 16, 17, 18, 19, 20, 21, 22, 23, 24, 25, 26, 27, 28, 29, 30, 31, 32, 33, 34, 35, 36, 37, 38] (by decide +kernel) (by decide +kernel)
set_option maxRecDepth 20000 in
theorem gX4_overtakeOf_X4_moment : GoodIn wsX4_overtakeOf (wsV RX4 171 RX4 yX4_moment wsX4_moment) := goodIn_app (goodIn_of _ (by decide +kernel)) ggX4_overtakeOf_X4_moment
set_option maxRecDepth 20000 in
theorem ggX4_overtakeOf_X4_at : GoodIn wsX4_overtakeOf wsX4_at := goodIn_r _ [9] (by decide +kernel) (by decide +kernel)
set_option maxRecDepth 20000 in
theorem gX4_overtakeOf_X4_at : GoodIn wsX4_overtakeOf (va_wsS RX4 41 yX4_at wsX4_at) := goodIn_app (goodIn_of _ (by decide +kernel)) ggX4_overtakeOf_X4_at
theorem dX4_overtakeOf_0 : decode cX4_overtakeOf 0 = .ok (.iload_n 1, 1) := by decide +kernel
theorem dX4_overtakeOf_1 : decode cX4_overtakeOf 1 = .ok (.iload_n 2, 1) := by decide +kernel
theorem dX4_overtakeOf_2 : decode cX4_overtakeOf 2 = .ok (.if_icmp .ne 5, 3) := by decide +kernel
theorem dX4_overtakeOf_5 : decode cX4_overtakeOf 5 = .ok (.iconst 0, 1) := by decide +kernel
theorem dX4_overtakeOf_6 : decode cX4_overtakeOf 6 = .ok (.ireturn, 1) := by decide +kernel
theorem dX4_overtakeOf_7 : decode cX4_overtakeOf 7 = .ok (.aload_n 0, 1) := by decide +kernel
theorem dX4_overtakeOf_8 : decode cX4_overtakeOf 8 = .ok (.iload_n 1, 1) := by decide +kernel
theorem dX4_overtakeOf_9 : decode cX4_overtakeOf 9 = .ok (.iload_n 2, 1) := by decide +kernel
theorem dX4_overtakeOf_10 : decode cX4_overtakeOf 10 = .ok (.lconst 0, 1) := by decide +kernel
theorem dX4_overtakeOf_11 : decode cX4_overtakeOf 11 = .ok (.lconst 1, 1) := by decide +kernel
theorem dX4_overtakeOf_12 : decode cX4_overtakeOf 12 = .ok (.invokevirtual 59, 3) := by decide +kernel
theorem dX4_overtakeOf_15 : decode cX4_overtakeOf 15 = .ok (.ifCond .eq 11, 3) := by decide +kernel
theorem dX4_overtakeOf_18 : decode cX4_overtakeOf 18 = .ok (.aload_n 0, 1) := by decide +kernel
theorem dX4_overtakeOf_19 : decode cX4_overtakeOf 19 = .ok (.iconst 0, 1) := by decide +kernel
theorem dX4_overtakeOf_20 : decode cX4_overtakeOf 20 = .ok (.iconst 1, 1) := by decide +kernel
theorem dX4_overtakeOf_21 : decode cX4_overtakeOf 21 = .ok (.iload_n 3, 1) := by decide +kernel
theorem dX4_overtakeOf_22 : decode cX4_overtakeOf 22 = .ok (.invokevirtual 171, 3) := by decide +kernel
theorem dX4_overtakeOf_25 : decode cX4_overtakeOf 25 = .ok (.ireturn, 1) := by decide +kernel
theorem dX4_overtakeOf_26 : decode cX4_overtakeOf 26 = .ok (.aload_n 0, 1) := by decide +kernel
theorem dX4_overtakeOf_27 : decode cX4_overtakeOf 27 = .ok (.getfield 7, 3) := by decide +kernel
theorem dX4_overtakeOf_30 : decode cX4_overtakeOf 30 = .ok (.iload_n 1, 1) := by decide +kernel
theorem dX4_overtakeOf_31 : decode cX4_overtakeOf 31 = .ok (.invokestatic 41, 3) := by decide +kernel
theorem dX4_overtakeOf_34 : decode cX4_overtakeOf 34 = .ok (.iconst 2, 1) := by decide +kernel
theorem dX4_overtakeOf_35 : decode cX4_overtakeOf 35 = .ok (.iadd, 1) := by decide +kernel
theorem dX4_overtakeOf_36 : decode cX4_overtakeOf 36 = .ok (.iaload, 1) := by decide +kernel
theorem dX4_overtakeOf_37 : decode cX4_overtakeOf 37 = .ok (.aload_n 0, 1) := by decide +kernel
theorem dX4_overtakeOf_38 : decode cX4_overtakeOf 38 = .ok (.getfield 7, 3) := by decide +kernel
theorem dX4_overtakeOf_41 : decode cX4_overtakeOf 41 = .ok (.iload_n 2, 1) := by decide +kernel
theorem dX4_overtakeOf_42 : decode cX4_overtakeOf 42 = .ok (.invokestatic 41, 3) := by decide +kernel
theorem dX4_overtakeOf_45 : decode cX4_overtakeOf 45 = .ok (.iconst 2, 1) := by decide +kernel
theorem dX4_overtakeOf_46 : decode cX4_overtakeOf 46 = .ok (.iadd, 1) := by decide +kernel
theorem dX4_overtakeOf_47 : decode cX4_overtakeOf 47 = .ok (.iaload, 1) := by decide +kernel
theorem dX4_overtakeOf_48 : decode cX4_overtakeOf 48 = .ok (.isub, 1) := by decide +kernel
theorem dX4_overtakeOf_49 : decode cX4_overtakeOf 49 = .ok (.istore 4, 2) := by decide +kernel
theorem dX4_overtakeOf_51 : decode cX4_overtakeOf 51 = .ok (.iload 4, 2) := by decide +kernel
theorem dX4_overtakeOf_53 : decode cX4_overtakeOf 53 = .ok (.ifCond .le 36, 3) := by decide +kernel
theorem dX4_overtakeOf_56 : decode cX4_overtakeOf 56 = .ok (.aload_n 0, 1) := by decide +kernel
theorem dX4_overtakeOf_57 : decode cX4_overtakeOf 57 = .ok (.aload_n 0, 1) := by decide +kernel
theorem dX4_overtakeOf_58 : decode cX4_overtakeOf 58 = .ok (.getfield 7, 3) := by decide +kernel
theorem dX4_overtakeOf_61 : decode cX4_overtakeOf 61 = .ok (.iload_n 2, 1) := by decide +kernel
theorem dX4_overtakeOf_62 : decode cX4_overtakeOf 62 = .ok (.invokestatic 41, 3) := by decide +kernel
theorem dX4_overtakeOf_65 : decode cX4_overtakeOf 65 = .ok (.iconst 1, 1) := by decide +kernel
theorem dX4_overtakeOf_66 : decode cX4_overtakeOf 66 = .ok (.iadd, 1) := by decide +kernel
theorem dX4_overtakeOf_67 : decode cX4_overtakeOf 67 = .ok (.iaload, 1) := by decide +kernel
theorem dX4_overtakeOf_68 : decode cX4_overtakeOf 68 = .ok (.aload_n 0, 1) := by decide +kernel
theorem dX4_overtakeOf_69 : decode cX4_overtakeOf 69 = .ok (.getfield 7, 3) := by decide +kernel
theorem dX4_overtakeOf_72 : decode cX4_overtakeOf 72 = .ok (.iload_n 1, 1) := by decide +kernel
theorem dX4_overtakeOf_73 : decode cX4_overtakeOf 73 = .ok (.invokestatic 41, 3) := by decide +kernel
theorem dX4_overtakeOf_76 : decode cX4_overtakeOf 76 = .ok (.iconst 1, 1) := by decide +kernel
theorem dX4_overtakeOf_77 : decode cX4_overtakeOf 77 = .ok (.iadd, 1) := by decide +kernel
theorem dX4_overtakeOf_78 : decode cX4_overtakeOf 78 = .ok (.iaload, 1) := by decide +kernel
theorem dX4_overtakeOf_79 : decode cX4_overtakeOf 79 = .ok (.isub, 1) := by decide +kernel
theorem dX4_overtakeOf_80 : decode cX4_overtakeOf 80 = .ok (.iload 4, 2) := by decide +kernel
theorem dX4_overtakeOf_82 : decode cX4_overtakeOf 82 = .ok (.iload_n 3, 1) := by decide +kernel
theorem dX4_overtakeOf_83 : decode cX4_overtakeOf 83 = .ok (.invokevirtual 171, 3) := by decide +kernel
theorem dX4_overtakeOf_86 : decode cX4_overtakeOf 86 = .ok (.goto 4, 3) := by decide +kernel
theorem dX4_overtakeOf_89 : decode cX4_overtakeOf 89 = .ok (.iconst 0, 1) := by decide +kernel
theorem dX4_overtakeOf_90 : decode cX4_overtakeOf 90 = .ok (.ireturn, 1) := by decide +kernel
set_option maxRecDepth 20000 in
theorem ggX4_overtakes_X4_isMover : GoodIn wsX4_overtakes wsX4_isMover := goodIn_r _ [6, 7, 8, 5, 9, 10, 11, 12, 13, 14, 15, 16, 17, 37, 38, 39, 40, 41, 42, 43, 44, 45, 46, 47, 48, 49, 50, 51, 52, 53, 54, 55, 56, 57, 58] (by decide +kernel) (by decide +kernel)
set_option maxRecDepth 20000 in
theorem gX4_overtakes_X4_isMover : GoodIn wsX4_overtakes (wsV RX4 111 RX4 yX4_isMover wsX4_isMover) := goodIn_app (goodIn_of _ (by decide +kernel)) ggX4_overtakes_X4_isMover
set_option maxRecDepth 20000 in
theorem ggX4_overtakes_X4_fails : GoodIn wsX4_overtakes wsX4_fails := goodIn_r _ [21, 1, 37, 38, 39, 40, 41, 42, 43, 44, 45, 46, 47, 48, 49, 50, 51, 52, 53, 54, 55, 56, 57, 58] (by decide +kernel) (by decide +kernel)
set_option maxRecDepth 20000 in
theorem gX4_overtakes_X4_fails : GoodIn wsX4_overtakes (wsV RX4 102 RX4 yX4_fails wsX4_fails) := goodIn_app (goodIn_of _ (by decide +kernel)) ggX4_overtakes_X4_fails
set_option maxRecDepth 20000 in
theorem ggX4_overtakes_X4_in : GoodIn wsX4_overtakes wsX4_in := goodIn_r _ [9] (by decide +kernel) (by decide +kernel)
set_option maxRecDepth 20000 in
theorem gX4_overtakes_X4_in : GoodIn wsX4_overtakes (va_wsS RX4 45 yX4_in wsX4_in) := goodIn_app (goodIn_of _ (by decide +kernel)) ggX4_overtakes_X4_in
set_option maxRecDepth 20000 in
theorem ggX4_overtakes_X4_overtakeOf : GoodIn wsX4_overtakes wsX4_overtakeOf := goodIn_r _ [25, 14, 26, 27, 28, 5, 29, 15, 16, 17, 30, 31, 32, 33, 34, 35, 36, 37, 38, 39, 40, 41, 42, 43, 44, 45, 46, 47, 48, 49, 50, 51, 52, 53, 54, 55, 56, 57, 58] (by decide +kernel) (by decide +kernel)
set_option maxRecDepth 20000 in
theorem gX4_overtakes_X4_overtakeOf : GoodIn wsX4_overtakes (wsV RX4 205 RX4 yX4_overtakeOf wsX4_overtakeOf) := goodIn_app (goodIn_of _ (by decide +kernel)) ggX4_overtakes_X4_overtakeOf
theorem dX4_overtakes_0 : decode cX4_overtakes 0 = .ok (.aload_n 0, 1) := by decide +kernel
theorem dX4_overtakes_1 : decode cX4_overtakes 1 = .ok (.iconst 0, 1) := by decide +kernel
theorem dX4_overtakes_2 : decode cX4_overtakes 2 = .ok (.putfield 34, 3) := by decide +kernel
theorem dX4_overtakes_5 : decode cX4_overtakes 5 = .ok (.aload_n 0, 1) := by decide +kernel
theorem dX4_overtakes_6 : decode cX4_overtakes 6 = .ok (.iload_n 1, 1) := by decide +kernel
theorem dX4_overtakes_7 : decode cX4_overtakes 7 = .ok (.invokevirtual 111, 3) := by decide +kernel
theorem dX4_overtakes_10 : decode cX4_overtakes 10 = .ok (.ifCond .eq 11, 3) := by decide +kernel
theorem dX4_overtakes_13 : decode cX4_overtakes 13 = .ok (.aload_n 0, 1) := by decide +kernel
theorem dX4_overtakes_14 : decode cX4_overtakes 14 = .ok (.iload_n 2, 1) := by decide +kernel
theorem dX4_overtakes_15 : decode cX4_overtakes 15 = .ok (.invokevirtual 111, 3) := by decide +kernel
theorem dX4_overtakes_18 : decode cX4_overtakes 18 = .ok (.ifCond .ne 9, 3) := by decide +kernel
theorem dX4_overtakes_21 : decode cX4_overtakes 21 = .ok (.aload_n 0, 1) := by decide +kernel
theorem dX4_overtakes_22 : decode cX4_overtakes 22 = .ok (.iconst 1, 1) := by decide +kernel
theorem dX4_overtakes_23 : decode cX4_overtakes 23 = .ok (.invokevirtual 102, 3) := by decide +kernel
theorem dX4_overtakes_26 : decode cX4_overtakes 26 = .ok (.ireturn, 1) := by decide +kernel
theorem dX4_overtakes_27 : decode cX4_overtakes 27 = .ok (.iload_n 3, 1) := by decide +kernel
theorem dX4_overtakes_28 : decode cX4_overtakes 28 = .ok (.iconst 0, 1) := by decide +kernel
theorem dX4_overtakes_29 : decode cX4_overtakes 29 = .ok (.iconst 1, 1) := by decide +kernel
theorem dX4_overtakes_30 : decode cX4_overtakes 30 = .ok (.invokestatic 45, 3) := by decide +kernel
theorem dX4_overtakes_33 : decode cX4_overtakes 33 = .ok (.ifCond .eq 13, 3) := by decide +kernel
theorem dX4_overtakes_36 : decode cX4_overtakes 36 = .ok (.aload_n 0, 1) := by decide +kernel
theorem dX4_overtakes_37 : decode cX4_overtakes 37 = .ok (.iload_n 1, 1) := by decide +kernel
theorem dX4_overtakes_38 : decode cX4_overtakes 38 = .ok (.iload_n 2, 1) := by decide +kernel
theorem dX4_overtakes_39 : decode cX4_overtakes 39 = .ok (.iload_n 3, 1) := by decide +kernel
theorem dX4_overtakes_40 : decode cX4_overtakes 40 = .ok (.invokevirtual 205, 3) := by decide +kernel
theorem dX4_overtakes_43 : decode cX4_overtakes 43 = .ok (.goto 8, 3) := by decide +kernel
theorem dX4_overtakes_46 : decode cX4_overtakes 46 = .ok (.aload_n 0, 1) := by decide +kernel
theorem dX4_overtakes_47 : decode cX4_overtakes 47 = .ok (.iconst 2, 1) := by decide +kernel
theorem dX4_overtakes_48 : decode cX4_overtakes 48 = .ok (.invokevirtual 102, 3) := by decide +kernel
theorem dX4_overtakes_51 : decode cX4_overtakes 51 = .ok (.ireturn, 1) := by decide +kernel
set_option maxRecDepth 20000 in
theorem ggX4_turnsIn_X4_in : GoodIn wsX4_turnsIn wsX4_in := goodIn_r _ [5] (by decide +kernel) (by decide +kernel)
set_option maxRecDepth 20000 in
theorem gX4_turnsIn_X4_in : GoodIn wsX4_turnsIn (va_wsS RX4 45 yX4_in wsX4_in) := goodIn_app (goodIn_of _ (by decide +kernel)) ggX4_turnsIn_X4_in
set_option maxRecDepth 20000 in
theorem ggX4_turnsIn_X4_turnsAll : GoodIn wsX4_turnsIn wsX4_turnsAll := goodIn_r _ [9, 10, 11, 12, 4, 13, 14, 15, 16, 17, 18, 19, 20, 21, 22, 23, 24, 25, 26, 27, 28, 29, 30, 31, 32, 33, 34, 35, 36, 37, 38, 39, 40, 41, 42, 43, 44, 45, 46, 47, 52, 53, 54, 55, 56, 57, 58, 59, 60, 61, 62, 63, 64, 65, 66, 67, 68, 69, 70, 71, 72, 73] (by decide +kernel) (by decide +kernel)
set_option maxRecDepth 20000 in
theorem gX4_turnsIn_X4_turnsAll : GoodIn wsX4_turnsIn (wsV RX4 208 RX4 yX4_turnsAll wsX4_turnsAll) := goodIn_app (goodIn_of _ (by decide +kernel)) ggX4_turnsIn_X4_turnsAll
set_option maxRecDepth 20000 in
theorem ggX4_turnsIn_X4_fails : GoodIn wsX4_turnsIn wsX4_fails := goodIn_r _ [51, 1, 52, 53, 54, 55, 56, 57, 58, 59, 60, 61, 62, 63, 64, 65, 66, 67, 68, 69, 70, 71, 72, 73] (by decide +kernel) (by decide +kernel)
set_option maxRecDepth 20000 in
theorem gX4_turnsIn_X4_fails : GoodIn wsX4_turnsIn (wsV RX4 102 RX4 yX4_fails wsX4_fails) := goodIn_app (goodIn_of _ (by decide +kernel)) ggX4_turnsIn_X4_fails
theorem dX4_turnsIn_0 : decode cX4_turnsIn 0 = .ok (.aload_n 0, 1) := by decide +kernel
theorem dX4_turnsIn_1 : decode cX4_turnsIn 1 = .ok (.iconst 0, 1) := by decide +kernel
theorem dX4_turnsIn_2 : decode cX4_turnsIn 2 = .ok (.putfield 34, 3) := by decide +kernel
theorem dX4_turnsIn_5 : decode cX4_turnsIn 5 = .ok (.iload_n 1, 1) := by decide +kernel
theorem dX4_turnsIn_6 : decode cX4_turnsIn 6 = .ok (.iconst 0, 1) := by decide +kernel
theorem dX4_turnsIn_7 : decode cX4_turnsIn 7 = .ok (.sipush 999, 3) := by decide +kernel
theorem dX4_turnsIn_10 : decode cX4_turnsIn 10 = .ok (.invokestatic 45, 3) := by decide +kernel
theorem dX4_turnsIn_13 : decode cX4_turnsIn 13 = .ok (.ifCond .eq 11, 3) := by decide +kernel
theorem dX4_turnsIn_16 : decode cX4_turnsIn 16 = .ok (.aload_n 0, 1) := by decide +kernel
theorem dX4_turnsIn_17 : decode cX4_turnsIn 17 = .ok (.iload_n 1, 1) := by decide +kernel
theorem dX4_turnsIn_18 : decode cX4_turnsIn 18 = .ok (.invokevirtual 208, 3) := by decide +kernel
theorem dX4_turnsIn_21 : decode cX4_turnsIn 21 = .ok (.goto 8, 3) := by decide +kernel
theorem dX4_turnsIn_24 : decode cX4_turnsIn 24 = .ok (.aload_n 0, 1) := by decide +kernel
theorem dX4_turnsIn_25 : decode cX4_turnsIn 25 = .ok (.iconst 1, 1) := by decide +kernel
theorem dX4_turnsIn_26 : decode cX4_turnsIn 26 = .ok (.invokevirtual 102, 3) := by decide +kernel
theorem dX4_turnsIn_29 : decode cX4_turnsIn 29 = .ok (.ireturn, 1) := by decide +kernel
set_option maxRecDepth 20000 in
theorem ggX4_speedFor_X4_at : GoodIn wsX4_speedFor wsX4_at := goodIn_r _ [5] (by decide +kernel) (by decide +kernel)
set_option maxRecDepth 20000 in
theorem gX4_speedFor_X4_at : GoodIn wsX4_speedFor (va_wsS RX4 41 yX4_at wsX4_at) := goodIn_app (goodIn_of _ (by decide +kernel)) ggX4_speedFor_X4_at
set_option maxRecDepth 20000 in
theorem ggX4_speedFor_X4_winnerAt : GoodIn wsX4_speedFor wsX4_winnerAt := goodIn_r _ [9, 10, 11, 4, 12, 13, 14, 15, 16, 17, 18, 19, 1, 2, 3, 5, 20, 21, 22, 23, 24, 25, 26, 27, 28, 29, 30, 31, 32, 33, 34, 35, 36, 37, 38, 39, 40, 41, 42, 43, 44, 45] (by decide +kernel) (by decide +kernel)
set_option maxRecDepth 20000 in
theorem gX4_speedFor_X4_winnerAt : GoodIn wsX4_speedFor (wsV RX4 63 RX4 yX4_winnerAt wsX4_winnerAt) := goodIn_app (goodIn_of _ (by decide +kernel)) ggX4_speedFor_X4_winnerAt
theorem dX4_speedFor_0 : decode cX4_speedFor 0 = .ok (.aload_n 0, 1) := by decide +kernel
theorem dX4_speedFor_1 : decode cX4_speedFor 1 = .ok (.getfield 7, 3) := by decide +kernel
theorem dX4_speedFor_4 : decode cX4_speedFor 4 = .ok (.iload_n 1, 1) := by decide +kernel
theorem dX4_speedFor_5 : decode cX4_speedFor 5 = .ok (.invokestatic 41, 3) := by decide +kernel
theorem dX4_speedFor_8 : decode cX4_speedFor 8 = .ok (.iconst 2, 1) := by decide +kernel
theorem dX4_speedFor_9 : decode cX4_speedFor 9 = .ok (.iadd, 1) := by decide +kernel
theorem dX4_speedFor_10 : decode cX4_speedFor 10 = .ok (.iaload, 1) := by decide +kernel
theorem dX4_speedFor_11 : decode cX4_speedFor 11 = .ok (.istore_n 3, 1) := by decide +kernel
theorem dX4_speedFor_12 : decode cX4_speedFor 12 = .ok (.bipush (-100), 2) := by decide +kernel
theorem dX4_speedFor_14 : decode cX4_speedFor 14 = .ok (.istore 4, 2) := by decide +kernel
theorem dX4_speedFor_16 : decode cX4_speedFor 16 = .ok (.bipush (-99), 2) := by decide +kernel
theorem dX4_speedFor_18 : decode cX4_speedFor 18 = .ok (.istore 5, 2) := by decide +kernel
theorem dX4_speedFor_20 : decode cX4_speedFor 20 = .ok (.iload 5, 2) := by decide +kernel
theorem dX4_speedFor_22 : decode cX4_speedFor 22 = .ok (.bipush 100, 2) := by decide +kernel
theorem dX4_speedFor_24 : decode cX4_speedFor 24 = .ok (.if_icmp .ge 50, 3) := by decide +kernel
theorem dX4_speedFor_27 : decode cX4_speedFor 27 = .ok (.iload 4, 2) := by decide +kernel
theorem dX4_speedFor_29 : decode cX4_speedFor 29 = .ok (.bipush (-100), 2) := by decide +kernel
theorem dX4_speedFor_31 : decode cX4_speedFor 31 = .ok (.if_icmp .ne 43, 3) := by decide +kernel
theorem dX4_speedFor_34 : decode cX4_speedFor 34 = .ok (.aload_n 0, 1) := by decide +kernel
theorem dX4_speedFor_35 : decode cX4_speedFor 35 = .ok (.getfield 7, 3) := by decide +kernel
theorem dX4_speedFor_38 : decode cX4_speedFor 38 = .ok (.iload_n 1, 1) := by decide +kernel
theorem dX4_speedFor_39 : decode cX4_speedFor 39 = .ok (.invokestatic 41, 3) := by decide +kernel
theorem dX4_speedFor_42 : decode cX4_speedFor 42 = .ok (.iconst 2, 1) := by decide +kernel
theorem dX4_speedFor_43 : decode cX4_speedFor 43 = .ok (.iadd, 1) := by decide +kernel
theorem dX4_speedFor_44 : decode cX4_speedFor 44 = .ok (.iload 5, 2) := by decide +kernel
theorem dX4_speedFor_46 : decode cX4_speedFor 46 = .ok (.iastore, 1) := by decide +kernel
theorem dX4_speedFor_47 : decode cX4_speedFor 47 = .ok (.aload_n 0, 1) := by decide +kernel
theorem dX4_speedFor_48 : decode cX4_speedFor 48 = .ok (.iconst 1, 1) := by decide +kernel
theorem dX4_speedFor_49 : decode cX4_speedFor 49 = .ok (.iload_n 2, 1) := by decide +kernel
theorem dX4_speedFor_50 : decode cX4_speedFor 50 = .ok (.i2l, 1) := by decide +kernel
theorem dX4_speedFor_51 : decode cX4_speedFor 51 = .ok (.lconst 1, 1) := by decide +kernel
theorem dX4_speedFor_52 : decode cX4_speedFor 52 = .ok (.invokevirtual 63, 3) := by decide +kernel
theorem dX4_speedFor_55 : decode cX4_speedFor 55 = .ok (.iload_n 1, 1) := by decide +kernel
theorem dX4_speedFor_56 : decode cX4_speedFor 56 = .ok (.if_icmp .ne 8, 3) := by decide +kernel
theorem dX4_speedFor_59 : decode cX4_speedFor 59 = .ok (.iload 5, 2) := by decide +kernel
theorem dX4_speedFor_61 : decode cX4_speedFor 61 = .ok (.goto 5, 3) := by decide +kernel
theorem dX4_speedFor_64 : decode cX4_speedFor 64 = .ok (.iload 4, 2) := by decide +kernel
theorem dX4_speedFor_66 : decode cX4_speedFor 66 = .ok (.istore 4, 2) := by decide +kernel
theorem dX4_speedFor_68 : decode cX4_speedFor 68 = .ok (.iinc 5 1, 3) := by decide +kernel
theorem dX4_speedFor_71 : decode cX4_speedFor 71 = .ok (.goto (-51), 3) := by decide +kernel
theorem dX4_speedFor_74 : decode cX4_speedFor 74 = .ok (.aload_n 0, 1) := by decide +kernel
theorem dX4_speedFor_75 : decode cX4_speedFor 75 = .ok (.getfield 7, 3) := by decide +kernel
theorem dX4_speedFor_78 : decode cX4_speedFor 78 = .ok (.iload_n 1, 1) := by decide +kernel
theorem dX4_speedFor_79 : decode cX4_speedFor 79 = .ok (.invokestatic 41, 3) := by decide +kernel
theorem dX4_speedFor_82 : decode cX4_speedFor 82 = .ok (.iconst 2, 1) := by decide +kernel
theorem dX4_speedFor_83 : decode cX4_speedFor 83 = .ok (.iadd, 1) := by decide +kernel
theorem dX4_speedFor_84 : decode cX4_speedFor 84 = .ok (.iload_n 3, 1) := by decide +kernel
theorem dX4_speedFor_85 : decode cX4_speedFor 85 = .ok (.iastore, 1) := by decide +kernel
theorem dX4_speedFor_86 : decode cX4_speedFor 86 = .ok (.iload 4, 2) := by decide +kernel
theorem dX4_speedFor_88 : decode cX4_speedFor 88 = .ok (.ireturn, 1) := by decide +kernel
set_option maxRecDepth 20000 in
theorem ggX4_leastSpeed_X4_isMover : GoodIn wsX4_leastSpeed wsX4_isMover := goodIn_r _ [6, 7, 8, 5, 9, 10, 11, 12, 13, 14, 15, 16, 17, 40, 41, 42, 43, 44, 45, 46, 47, 48, 49, 50, 51, 52, 53, 54, 55, 56, 57, 58, 59, 60, 61] (by decide +kernel) (by decide +kernel)
set_option maxRecDepth 20000 in
theorem gX4_leastSpeed_X4_isMover : GoodIn wsX4_leastSpeed (wsV RX4 111 RX4 yX4_isMover wsX4_isMover) := goodIn_app (goodIn_of _ (by decide +kernel)) ggX4_leastSpeed_X4_isMover
set_option maxRecDepth 20000 in
theorem ggX4_leastSpeed_X4_fails : GoodIn wsX4_leastSpeed wsX4_fails := goodIn_r _ [21, 1, 40, 41, 42, 43, 44, 45, 46, 47, 48, 49, 50, 51, 52, 53, 54, 55, 56, 57, 58, 59, 60, 61] (by decide +kernel) (by decide +kernel)
set_option maxRecDepth 20000 in
theorem gX4_leastSpeed_X4_fails : GoodIn wsX4_leastSpeed (wsV RX4 102 RX4 yX4_fails wsX4_fails) := goodIn_app (goodIn_of _ (by decide +kernel)) ggX4_leastSpeed_X4_fails
set_option maxRecDepth 20000 in
theorem ggX4_leastSpeed_X4_in : GoodIn wsX4_leastSpeed wsX4_in := goodIn_r _ [9] (by decide +kernel) (by decide +kernel)
set_option maxRecDepth 20000 in
theorem gX4_leastSpeed_X4_in : GoodIn wsX4_leastSpeed (va_wsS RX4 45 yX4_in wsX4_in) := goodIn_app (goodIn_of _ (by decide +kernel)) ggX4_leastSpeed_X4_in
set_option maxRecDepth 20000 in
theorem ggX4_leastSpeed_X4_speedFor : GoodIn wsX4_leastSpeed wsX4_speedFor := goodIn_r _ [25, 14, 15, 16, 5, 17, 26, 27, 28, 29, 30, 31, 32, 33, 34, 35, 10, 11, 12, 13, 36, 37, 38, 39, 40, 41, 42, 43, 44, 45, 46, 47, 48, 49, 50, 51, 52, 53, 54, 55, 56, 57, 58, 59, 60, 61] (by decide +kernel) (by decide +kernel)
set_option maxRecDepth 20000 in
theorem gX4_leastSpeed_X4_speedFor : GoodIn wsX4_leastSpeed (wsV RX4 211 RX4 yX4_speedFor wsX4_speedFor) := goodIn_app (goodIn_of _ (by decide +kernel)) ggX4_leastSpeed_X4_speedFor
theorem dX4_leastSpeed_0 : decode cX4_leastSpeed 0 = .ok (.aload_n 0, 1) := by decide +kernel
theorem dX4_leastSpeed_1 : decode cX4_leastSpeed 1 = .ok (.iconst 0, 1) := by decide +kernel
theorem dX4_leastSpeed_2 : decode cX4_leastSpeed 2 = .ok (.putfield 34, 3) := by decide +kernel
theorem dX4_leastSpeed_5 : decode cX4_leastSpeed 5 = .ok (.aload_n 0, 1) := by decide +kernel
theorem dX4_leastSpeed_6 : decode cX4_leastSpeed 6 = .ok (.iload_n 1, 1) := by decide +kernel
theorem dX4_leastSpeed_7 : decode cX4_leastSpeed 7 = .ok (.invokevirtual 111, 3) := by decide +kernel
theorem dX4_leastSpeed_10 : decode cX4_leastSpeed 10 = .ok (.ifCond .ne 9, 3) := by decide +kernel
theorem dX4_leastSpeed_13 : decode cX4_leastSpeed 13 = .ok (.aload_n 0, 1) := by decide +kernel
theorem dX4_leastSpeed_14 : decode cX4_leastSpeed 14 = .ok (.iconst 1, 1) := by decide +kernel
theorem dX4_leastSpeed_15 : decode cX4_leastSpeed 15 = .ok (.invokevirtual 102, 3) := by decide +kernel
theorem dX4_leastSpeed_18 : decode cX4_leastSpeed 18 = .ok (.ireturn, 1) := by decide +kernel
theorem dX4_leastSpeed_19 : decode cX4_leastSpeed 19 = .ok (.iload_n 2, 1) := by decide +kernel
theorem dX4_leastSpeed_20 : decode cX4_leastSpeed 20 = .ok (.iconst 0, 1) := by decide +kernel
theorem dX4_leastSpeed_21 : decode cX4_leastSpeed 21 = .ok (.sipush 999, 3) := by decide +kernel
theorem dX4_leastSpeed_24 : decode cX4_leastSpeed 24 = .ok (.invokestatic 45, 3) := by decide +kernel
theorem dX4_leastSpeed_27 : decode cX4_leastSpeed 27 = .ok (.ifCond .eq 12, 3) := by decide +kernel
theorem dX4_leastSpeed_30 : decode cX4_leastSpeed 30 = .ok (.aload_n 0, 1) := by decide +kernel
theorem dX4_leastSpeed_31 : decode cX4_leastSpeed 31 = .ok (.iload_n 1, 1) := by decide +kernel
theorem dX4_leastSpeed_32 : decode cX4_leastSpeed 32 = .ok (.iload_n 2, 1) := by decide +kernel
theorem dX4_leastSpeed_33 : decode cX4_leastSpeed 33 = .ok (.invokevirtual 211, 3) := by decide +kernel
theorem dX4_leastSpeed_36 : decode cX4_leastSpeed 36 = .ok (.goto 8, 3) := by decide +kernel
theorem dX4_leastSpeed_39 : decode cX4_leastSpeed 39 = .ok (.aload_n 0, 1) := by decide +kernel
theorem dX4_leastSpeed_40 : decode cX4_leastSpeed 40 = .ok (.iconst 2, 1) := by decide +kernel
theorem dX4_leastSpeed_41 : decode cX4_leastSpeed 41 = .ok (.invokevirtual 102, 3) := by decide +kernel
theorem dX4_leastSpeed_44 : decode cX4_leastSpeed 44 = .ok (.ireturn, 1) := by decide +kernel
set_option maxRecDepth 20000 in
theorem ggX4_momentOf_X4_moment : GoodIn wsX4_momentOf wsX4_moment := goodIn_r _ [7, 8, 9, 10, 6, 11, 12, 13, 14, 15, 16, 17, 18, 19, 20, 21, 22, 23, 24, 25, 26, 27, 28, 29, 30, 31, 32, 33] (by decide +kernel) (by decide +kernel)
set_option maxRecDepth 20000 in
theorem gX4_momentOf_X4_moment : GoodIn wsX4_momentOf (wsV RX4 171 RX4 yX4_moment wsX4_moment) := goodIn_app (goodIn_of _ (by decide +kernel)) ggX4_momentOf_X4_moment
theorem dX4_momentOf_0 : decode cX4_momentOf 0 = .ok (.aload_n 0, 1) := by decide +kernel
theorem dX4_momentOf_1 : decode cX4_momentOf 1 = .ok (.aload_n 0, 1) := by decide +kernel
theorem dX4_momentOf_2 : decode cX4_momentOf 2 = .ok (.getfield 28, 3) := by decide +kernel
theorem dX4_momentOf_5 : decode cX4_momentOf 5 = .ok (.iload_n 1, 1) := by decide +kernel
theorem dX4_momentOf_6 : decode cX4_momentOf 6 = .ok (.iaload, 1) := by decide +kernel
theorem dX4_momentOf_7 : decode cX4_momentOf 7 = .ok (.aload_n 0, 1) := by decide +kernel
theorem dX4_momentOf_8 : decode cX4_momentOf 8 = .ok (.getfield 31, 3) := by decide +kernel
theorem dX4_momentOf_11 : decode cX4_momentOf 11 = .ok (.iload_n 1, 1) := by decide +kernel
theorem dX4_momentOf_12 : decode cX4_momentOf 12 = .ok (.iaload, 1) := by decide +kernel
theorem dX4_momentOf_13 : decode cX4_momentOf 13 = .ok (.iconst 0, 1) := by decide +kernel
theorem dX4_momentOf_14 : decode cX4_momentOf 14 = .ok (.invokevirtual 171, 3) := by decide +kernel
theorem dX4_momentOf_17 : decode cX4_momentOf 17 = .ok (.i2d, 1) := by decide +kernel
theorem dX4_momentOf_18 : decode cX4_momentOf 18 = .ok (.aload_n 0, 1) := by decide +kernel
theorem dX4_momentOf_19 : decode cX4_momentOf 19 = .ok (.aload_n 0, 1) := by decide +kernel
theorem dX4_momentOf_20 : decode cX4_momentOf 20 = .ok (.getfield 28, 3) := by decide +kernel
theorem dX4_momentOf_23 : decode cX4_momentOf 23 = .ok (.iload_n 1, 1) := by decide +kernel
theorem dX4_momentOf_24 : decode cX4_momentOf 24 = .ok (.iaload, 1) := by decide +kernel
theorem dX4_momentOf_25 : decode cX4_momentOf 25 = .ok (.aload_n 0, 1) := by decide +kernel
theorem dX4_momentOf_26 : decode cX4_momentOf 26 = .ok (.getfield 31, 3) := by decide +kernel
theorem dX4_momentOf_29 : decode cX4_momentOf 29 = .ok (.iload_n 1, 1) := by decide +kernel
theorem dX4_momentOf_30 : decode cX4_momentOf 30 = .ok (.iaload, 1) := by decide +kernel
theorem dX4_momentOf_31 : decode cX4_momentOf 31 = .ok (.iconst 1, 1) := by decide +kernel
theorem dX4_momentOf_32 : decode cX4_momentOf 32 = .ok (.invokevirtual 171, 3) := by decide +kernel
theorem dX4_momentOf_35 : decode cX4_momentOf 35 = .ok (.i2d, 1) := by decide +kernel
theorem dX4_momentOf_36 : decode cX4_momentOf 36 = .ok (.ddiv, 1) := by decide +kernel
theorem dX4_momentOf_37 : decode cX4_momentOf 37 = .ok (.dreturn, 1) := by decide +kernel
set_option maxRecDepth 20000 in
theorem ggX4_shareOf_X4_spanOf : GoodIn wsX4_shareOf wsX4_spanOf := goodIn_r _ [7, 2, 8, 9, 10, 11, 6, 12, 13, 14, 15, 16, 17, 18, 19, 20, 21, 22, 23, 24, 25, 26, 27, 28, 29, 30, 31, 32, 33, 34, 35, 1, 36, 37, 38, 39, 40, 41, 42, 43, 44, 45, 46, 47, 59, 60, 61, 62, 63, 64, 65, 66, 67, 68, 69, 70, 71, 72, 73, 74, 75, 76, 77, 78, 79, 80] (by decide +kernel) (by decide +kernel)
set_option maxRecDepth 20000 in
theorem gX4_shareOf_X4_spanOf : GoodIn wsX4_shareOf (wsV RX4 168 RX4 yX4_spanOf wsX4_spanOf) := goodIn_app (goodIn_of _ (by decide +kernel)) ggX4_shareOf_X4_spanOf
set_option maxRecDepth 20000 in
theorem ggX4_shareOf_X4_momentOf : GoodIn wsX4_shareOf wsX4_momentOf := goodIn_r _ [51, 16, 17, 52, 53, 54, 6, 55, 1, 56, 57, 58, 59, 60, 61, 62, 63, 64, 65, 66, 67, 68, 69, 70, 71, 72, 73, 74, 75, 76, 77, 78, 79, 80] (by decide +kernel) (by decide +kernel)
set_option maxRecDepth 20000 in
theorem gX4_shareOf_X4_momentOf : GoodIn wsX4_shareOf (wsV RX4 214 RX4 yX4_momentOf wsX4_momentOf) := goodIn_app (goodIn_of _ (by decide +kernel)) ggX4_shareOf_X4_momentOf
theorem dX4_shareOf_0 : decode cX4_shareOf 0 = .ok (.aload_n 0, 1) := by decide +kernel
theorem dX4_shareOf_1 : decode cX4_shareOf 1 = .ok (.iload_n 1, 1) := by decide +kernel
theorem dX4_shareOf_2 : decode cX4_shareOf 2 = .ok (.invokevirtual 168, 3) := by decide +kernel
theorem dX4_shareOf_5 : decode cX4_shareOf 5 = .ok (.istore_n 2, 1) := by decide +kernel
theorem dX4_shareOf_6 : decode cX4_shareOf 6 = .ok (.iload_n 2, 1) := by decide +kernel
theorem dX4_shareOf_7 : decode cX4_shareOf 7 = .ok (.iconst (-1), 1) := by decide +kernel
theorem dX4_shareOf_8 : decode cX4_shareOf 8 = .ok (.if_icmp .ne 5, 3) := by decide +kernel
theorem dX4_shareOf_11 : decode cX4_shareOf 11 = .ok (.dconst 0, 1) := by decide +kernel
theorem dX4_shareOf_12 : decode cX4_shareOf 12 = .ok (.dreturn, 1) := by decide +kernel
theorem dX4_shareOf_13 : decode cX4_shareOf 13 = .ok (.aload_n 0, 1) := by decide +kernel
theorem dX4_shareOf_14 : decode cX4_shareOf 14 = .ok (.iload_n 2, 1) := by decide +kernel
theorem dX4_shareOf_15 : decode cX4_shareOf 15 = .ok (.invokevirtual 214, 3) := by decide +kernel
theorem dX4_shareOf_18 : decode cX4_shareOf 18 = .ok (.dstore_n 3, 1) := by decide +kernel
theorem dX4_shareOf_19 : decode cX4_shareOf 19 = .ok (.aload_n 0, 1) := by decide +kernel
theorem dX4_shareOf_20 : decode cX4_shareOf 20 = .ok (.getfield 7, 3) := by decide +kernel
theorem dX4_shareOf_23 : decode cX4_shareOf 23 = .ok (.iconst 0, 1) := by decide +kernel
theorem dX4_shareOf_24 : decode cX4_shareOf 24 = .ok (.iaload, 1) := by decide +kernel
theorem dX4_shareOf_25 : decode cX4_shareOf 25 = .ok (.aload_n 0, 1) := by decide +kernel
theorem dX4_shareOf_26 : decode cX4_shareOf 26 = .ok (.getfield 7, 3) := by decide +kernel
theorem dX4_shareOf_29 : decode cX4_shareOf 29 = .ok (.iconst 2, 1) := by decide +kernel
theorem dX4_shareOf_30 : decode cX4_shareOf 30 = .ok (.iaload, 1) := by decide +kernel
theorem dX4_shareOf_31 : decode cX4_shareOf 31 = .ok (.iadd, 1) := by decide +kernel
theorem dX4_shareOf_32 : decode cX4_shareOf 32 = .ok (.i2d, 1) := by decide +kernel
theorem dX4_shareOf_33 : decode cX4_shareOf 33 = .ok (.dstore 5, 2) := by decide +kernel
theorem dX4_shareOf_35 : decode cX4_shareOf 35 = .ok (.iload_n 2, 1) := by decide +kernel
theorem dX4_shareOf_36 : decode cX4_shareOf 36 = .ok (.iconst 1, 1) := by decide +kernel
theorem dX4_shareOf_37 : decode cX4_shareOf 37 = .ok (.iadd, 1) := by decide +kernel
theorem dX4_shareOf_38 : decode cX4_shareOf 38 = .ok (.aload_n 0, 1) := by decide +kernel
theorem dX4_shareOf_39 : decode cX4_shareOf 39 = .ok (.getfield 162, 3) := by decide +kernel
theorem dX4_shareOf_42 : decode cX4_shareOf 42 = .ok (.if_icmp .ge 13, 3) := by decide +kernel
theorem dX4_shareOf_45 : decode cX4_shareOf 45 = .ok (.aload_n 0, 1) := by decide +kernel
theorem dX4_shareOf_46 : decode cX4_shareOf 46 = .ok (.iload_n 2, 1) := by decide +kernel
theorem dX4_shareOf_47 : decode cX4_shareOf 47 = .ok (.iconst 1, 1) := by decide +kernel
theorem dX4_shareOf_48 : decode cX4_shareOf 48 = .ok (.iadd, 1) := by decide +kernel
theorem dX4_shareOf_49 : decode cX4_shareOf 49 = .ok (.invokevirtual 214, 3) := by decide +kernel
theorem dX4_shareOf_52 : decode cX4_shareOf 52 = .ok (.goto 5, 3) := by decide +kernel
theorem dX4_shareOf_55 : decode cX4_shareOf 55 = .ok (.dload 5, 2) := by decide +kernel
theorem dX4_shareOf_57 : decode cX4_shareOf 57 = .ok (.dstore 7, 2) := by decide +kernel
theorem dX4_shareOf_59 : decode cX4_shareOf 59 = .ok (.dload 7, 2) := by decide +kernel
theorem dX4_shareOf_61 : decode cX4_shareOf 61 = .ok (.dload 5, 2) := by decide +kernel
theorem dX4_shareOf_63 : decode cX4_shareOf 63 = .ok (.dcmp .g, 1) := by decide +kernel
theorem dX4_shareOf_64 : decode cX4_shareOf 64 = .ok (.ifCond .ge 8, 3) := by decide +kernel
theorem dX4_shareOf_67 : decode cX4_shareOf 67 = .ok (.dload 7, 2) := by decide +kernel
theorem dX4_shareOf_69 : decode cX4_shareOf 69 = .ok (.goto 5, 3) := by decide +kernel
theorem dX4_shareOf_72 : decode cX4_shareOf 72 = .ok (.dload 5, 2) := by decide +kernel
theorem dX4_shareOf_74 : decode cX4_shareOf 74 = .ok (.dstore 5, 2) := by decide +kernel
theorem dX4_shareOf_76 : decode cX4_shareOf 76 = .ok (.dload 5, 2) := by decide +kernel
theorem dX4_shareOf_78 : decode cX4_shareOf 78 = .ok (.dload_n 3, 1) := by decide +kernel
theorem dX4_shareOf_79 : decode cX4_shareOf 79 = .ok (.dsub, 1) := by decide +kernel
theorem dX4_shareOf_80 : decode cX4_shareOf 80 = .ok (.dconst 0, 1) := by decide +kernel
theorem dX4_shareOf_81 : decode cX4_shareOf 81 = .ok (.dcmp .l, 1) := by decide +kernel
theorem dX4_shareOf_82 : decode cX4_shareOf 82 = .ok (.ifCond .le 18, 3) := by decide +kernel
theorem dX4_shareOf_85 : decode cX4_shareOf 85 = .ok (.dload 5, 2) := by decide +kernel
theorem dX4_shareOf_87 : decode cX4_shareOf 87 = .ok (.dload_n 3, 1) := by decide +kernel
theorem dX4_shareOf_88 : decode cX4_shareOf 88 = .ok (.dsub, 1) := by decide +kernel
theorem dX4_shareOf_89 : decode cX4_shareOf 89 = .ok (.aload_n 0, 1) := by decide +kernel
theorem dX4_shareOf_90 : decode cX4_shareOf 90 = .ok (.getfield 7, 3) := by decide +kernel
theorem dX4_shareOf_93 : decode cX4_shareOf 93 = .ok (.iconst 2, 1) := by decide +kernel
theorem dX4_shareOf_94 : decode cX4_shareOf 94 = .ok (.iaload, 1) := by decide +kernel
theorem dX4_shareOf_95 : decode cX4_shareOf 95 = .ok (.i2d, 1) := by decide +kernel
theorem dX4_shareOf_96 : decode cX4_shareOf 96 = .ok (.ddiv, 1) := by decide +kernel
theorem dX4_shareOf_97 : decode cX4_shareOf 97 = .ok (.goto 4, 3) := by decide +kernel
theorem dX4_shareOf_100 : decode cX4_shareOf 100 = .ok (.dconst 0, 1) := by decide +kernel
theorem dX4_shareOf_101 : decode cX4_shareOf 101 = .ok (.dreturn, 1) := by decide +kernel
set_option maxRecDepth 20000 in
theorem ggX4_leadShare_X4_isMover : GoodIn wsX4_leadShare wsX4_isMover := goodIn_r _ [6, 7, 8, 5, 9, 10, 11, 12, 13, 14, 15, 16, 17, 75, 76, 77, 78, 79, 80, 81, 82, 83, 84, 85, 86, 87, 88, 89, 90, 91, 92, 93, 94, 95, 96] (by decide +kernel) (by decide +kernel)
set_option maxRecDepth 20000 in
theorem gX4_leadShare_X4_isMover : GoodIn wsX4_leadShare (wsV RX4 111 RX4 yX4_isMover wsX4_isMover) := goodIn_app (goodIn_of _ (by decide +kernel)) ggX4_leadShare_X4_isMover
set_option maxRecDepth 20000 in
theorem ggX4_leadShare_X4_shareOf : GoodIn wsX4_leadShare wsX4_shareOf := goodIn_r _ [21, 14, 22, 23, 24, 25, 5, 26, 27, 28, 29, 30, 31, 32, 33, 34, 35, 36, 37, 38, 39, 40, 41, 42, 43, 44, 45, 46, 47, 48, 49, 50, 10, 11, 12, 13, 15, 16, 17, 51, 52, 53, 54, 55, 56, 57, 58, 59, 60, 61, 62, 63, 64, 65, 66, 67, 68, 69, 70, 75, 76, 77, 78, 79, 80, 81, 82, 83, 84, 85, 86, 87, 88, 89, 90, 91, 92, 93, 94, 95, 96] (by decide +kernel) (by decide +kernel)
set_option maxRecDepth 20000 in
theorem gX4_leadShare_X4_shareOf : GoodIn wsX4_leadShare (wsV RX4 218 RX4 yX4_shareOf wsX4_shareOf) := goodIn_app (goodIn_of _ (by decide +kernel)) ggX4_leadShare_X4_shareOf
set_option maxRecDepth 20000 in
theorem ggX4_leadShare_X4_fails : GoodIn wsX4_leadShare wsX4_fails := goodIn_r _ [74, 1, 75, 76, 77, 78, 79, 80, 81, 82, 83, 84, 85, 86, 87, 88, 89, 90, 91, 92, 93, 94, 95, 96] (by decide +kernel) (by decide +kernel)
set_option maxRecDepth 20000 in
theorem gX4_leadShare_X4_fails : GoodIn wsX4_leadShare (wsV RX4 102 RX4 yX4_fails wsX4_fails) := goodIn_app (goodIn_of _ (by decide +kernel)) ggX4_leadShare_X4_fails
theorem dX4_leadShare_0 : decode cX4_leadShare 0 = .ok (.aload_n 0, 1) := by decide +kernel
theorem dX4_leadShare_1 : decode cX4_leadShare 1 = .ok (.iconst 0, 1) := by decide +kernel
theorem dX4_leadShare_2 : decode cX4_leadShare 2 = .ok (.putfield 34, 3) := by decide +kernel
theorem dX4_leadShare_5 : decode cX4_leadShare 5 = .ok (.aload_n 0, 1) := by decide +kernel
theorem dX4_leadShare_6 : decode cX4_leadShare 6 = .ok (.iload_n 1, 1) := by decide +kernel
theorem dX4_leadShare_7 : decode cX4_leadShare 7 = .ok (.invokevirtual 111, 3) := by decide +kernel
theorem dX4_leadShare_10 : decode cX4_leadShare 10 = .ok (.ifCond .eq 11, 3) := by decide +kernel
theorem dX4_leadShare_13 : decode cX4_leadShare 13 = .ok (.aload_n 0, 1) := by decide +kernel
theorem dX4_leadShare_14 : decode cX4_leadShare 14 = .ok (.iload_n 1, 1) := by decide +kernel
theorem dX4_leadShare_15 : decode cX4_leadShare 15 = .ok (.invokevirtual 218, 3) := by decide +kernel
theorem dX4_leadShare_18 : decode cX4_leadShare 18 = .ok (.goto 9, 3) := by decide +kernel
theorem dX4_leadShare_21 : decode cX4_leadShare 21 = .ok (.aload_n 0, 1) := by decide +kernel
theorem dX4_leadShare_22 : decode cX4_leadShare 22 = .ok (.iconst 1, 1) := by decide +kernel
theorem dX4_leadShare_23 : decode cX4_leadShare 23 = .ok (.invokevirtual 102, 3) := by decide +kernel
theorem dX4_leadShare_26 : decode cX4_leadShare 26 = .ok (.i2d, 1) := by decide +kernel
theorem dX4_leadShare_27 : decode cX4_leadShare 27 = .ok (.dreturn, 1) := by decide +kernel
theorem dX4_mix_0 : decode cX4_mix 0 = .ok (.aload_n 0, 1) := by decide +kernel
theorem dX4_mix_1 : decode cX4_mix 1 = .ok (.ldc2_w 221, 3) := by decide +kernel
theorem dX4_mix_4 : decode cX4_mix 4 = .ok (.aload_n 0, 1) := by decide +kernel
theorem dX4_mix_5 : decode cX4_mix 5 = .ok (.getfield 223, 3) := by decide +kernel
theorem dX4_mix_8 : decode cX4_mix 8 = .ok (.lmul, 1) := by decide +kernel
theorem dX4_mix_9 : decode cX4_mix 9 = .ok (.lload_n 1, 1) := by decide +kernel
theorem dX4_mix_10 : decode cX4_mix 10 = .ok (.ladd, 1) := by decide +kernel
theorem dX4_mix_11 : decode cX4_mix 11 = .ok (.putfield 223, 3) := by decide +kernel
theorem dX4_mix_14 : decode cX4_mix 14 = .ok (.return_, 1) := by decide +kernel
set_option maxRecDepth 20000 in
theorem ggX4_mixMover_X4_mix : GoodIn wsX4_mixMover wsX4_mix := goodIn_r _ [5, 6, 7, 101, 102, 103, 104, 105, 106, 107, 108, 109, 110, 111, 112, 113, 114, 115, 116, 117, 118, 119, 120, 121, 122] (by decide +kernel) (by decide +kernel)
set_option maxRecDepth 20000 in
theorem gX4_mixMover_X4_mix : GoodIn wsX4_mixMover (wsV RX4 227 RX4 yX4_mix wsX4_mix) := goodIn_app (goodIn_of _ (by decide +kernel)) ggX4_mixMover_X4_mix
set_option maxRecDepth 20000 in
theorem ggX4_mixMover_X4_moverOf : GoodIn wsX4_mixMover wsX4_moverOf := goodIn_r _ [11, 12, 13, 14, 4, 15, 16, 17, 18, 19, 20, 21, 22, 23, 24, 25, 26, 27, 28, 29, 30, 31, 32, 33, 34, 35, 36, 37, 38, 39, 40, 41, 42, 43, 44, 45, 46, 47, 48, 49, 50, 51, 52, 53, 54, 55, 56, 57, 58, 59, 60, 61, 62, 63, 64, 65, 66, 67, 68, 69, 70, 71, 72, 73, 74, 75, 76, 101, 102, 103, 104, 105, 106, 107, 108, 109, 110, 111, 112, 113, 114, 115, 116, 117, 118, 119, 120, 121, 122] (by decide +kernel) (by decide +kernel)
set_option maxRecDepth 20000 in
theorem gX4_mixMover_X4_moverOf : GoodIn wsX4_mixMover (wsV RX4 184 RX4 yX4_moverOf wsX4_moverOf) := goodIn_app (goodIn_of _ (by decide +kernel)) ggX4_mixMover_X4_moverOf
set_option maxRecDepth 20000 in
theorem ggX4_mixMover_X4_speedFor : GoodIn wsX4_mixMover wsX4_speedFor := goodIn_r _ [80, 12, 13, 14, 4, 15, 36, 37, 38, 39, 40, 41, 42, 43, 44, 45, 20, 21, 22, 23, 24, 25, 26, 27, 101, 102, 103, 104, 105, 106, 107, 108, 109, 110, 111, 112, 113, 114, 115, 116, 117, 118, 119, 120, 121, 122] (by decide +kernel) (by decide +kernel)
set_option maxRecDepth 20000 in
theorem gX4_mixMover_X4_speedFor : GoodIn wsX4_mixMover (wsV RX4 211 RX4 yX4_speedFor wsX4_speedFor) := goodIn_app (goodIn_of _ (by decide +kernel)) ggX4_mixMover_X4_speedFor
set_option maxRecDepth 20000 in
theorem ggX4_mixMover_X4_shareOf : GoodIn wsX4_mixMover wsX4_shareOf := goodIn_r _ [84, 12, 56, 52, 53, 54, 4, 55, 57, 58, 59, 60, 61, 62, 63, 64, 50, 51, 32, 33, 34, 35, 36, 37, 38, 39, 40, 41, 42, 43, 44, 45, 20, 21, 22, 23, 13, 14, 15, 24, 25, 26, 27, 65, 66, 67, 68, 69, 85, 86, 87, 88, 70, 71, 72, 73, 74, 75, 76, 101, 102, 103, 104, 105, 106, 107, 108, 109, 110, 111, 112, 113, 114, 115, 116, 117, 118, 119, 120, 121, 122] (by decide +kernel) (by decide +kernel)
set_option maxRecDepth 20000 in
theorem gX4_mixMover_X4_shareOf : GoodIn wsX4_mixMover (wsV RX4 218 RX4 yX4_shareOf wsX4_shareOf) := goodIn_app (goodIn_of _ (by decide +kernel)) ggX4_mixMover_X4_shareOf
set_option maxRecDepth 20000 in
theorem ggX4_mixMover_Jxe99ae_doubleToLongBits_ccdee : GoodIn wsX4_mixMover wsJxe99ae_doubleToLongBits_ccdee := goodIn_r _ [92, 93, 94, 95, 96, 97, 98, 99, 91, 100] (by decide +kernel) (by decide +kernel)
set_option maxRecDepth 20000 in
theorem gX4_mixMover_Jxe99ae_doubleToLongBits_ccdee : GoodIn wsX4_mixMover (va_wsS RX4 231 yJxe99ae_doubleToLongBits_ccdee wsJxe99ae_doubleToLongBits_ccdee) := goodIn_app (goodIn_of _ (by decide +kernel)) ggX4_mixMover_Jxe99ae_doubleToLongBits_ccdee
theorem dX4_mixMover_0 : decode cX4_mixMover 0 = .ok (.aload_n 0, 1) := by decide +kernel
theorem dX4_mixMover_1 : decode cX4_mixMover 1 = .ok (.iload_n 1, 1) := by decide +kernel
theorem dX4_mixMover_2 : decode cX4_mixMover 2 = .ok (.i2l, 1) := by decide +kernel
theorem dX4_mixMover_3 : decode cX4_mixMover 3 = .ok (.invokevirtual 227, 3) := by decide +kernel
theorem dX4_mixMover_6 : decode cX4_mixMover 6 = .ok (.iconst 0, 1) := by decide +kernel
theorem dX4_mixMover_7 : decode cX4_mixMover 7 = .ok (.istore_n 2, 1) := by decide +kernel
theorem dX4_mixMover_8 : decode cX4_mixMover 8 = .ok (.iload_n 2, 1) := by decide +kernel
theorem dX4_mixMover_9 : decode cX4_mixMover 9 = .ok (.bipush 7, 2) := by decide +kernel
theorem dX4_mixMover_11 : decode cX4_mixMover 11 = .ok (.if_icmp .ge 20, 3) := by decide +kernel
theorem dX4_mixMover_14 : decode cX4_mixMover 14 = .ok (.aload_n 0, 1) := by decide +kernel
theorem dX4_mixMover_15 : decode cX4_mixMover 15 = .ok (.aload_n 0, 1) := by decide +kernel
theorem dX4_mixMover_16 : decode cX4_mixMover 16 = .ok (.iload_n 1, 1) := by decide +kernel
theorem dX4_mixMover_17 : decode cX4_mixMover 17 = .ok (.iload_n 2, 1) := by decide +kernel
theorem dX4_mixMover_18 : decode cX4_mixMover 18 = .ok (.invokevirtual 184, 3) := by decide +kernel
theorem dX4_mixMover_21 : decode cX4_mixMover 21 = .ok (.i2l, 1) := by decide +kernel
theorem dX4_mixMover_22 : decode cX4_mixMover 22 = .ok (.invokevirtual 227, 3) := by decide +kernel
theorem dX4_mixMover_25 : decode cX4_mixMover 25 = .ok (.iinc 2 1, 3) := by decide +kernel
theorem dX4_mixMover_28 : decode cX4_mixMover 28 = .ok (.goto (-20), 3) := by decide +kernel
theorem dX4_mixMover_31 : decode cX4_mixMover 31 = .ok (.aload_n 0, 1) := by decide +kernel
theorem dX4_mixMover_32 : decode cX4_mixMover 32 = .ok (.aload_n 0, 1) := by decide +kernel
theorem dX4_mixMover_33 : decode cX4_mixMover 33 = .ok (.iload_n 1, 1) := by decide +kernel
theorem dX4_mixMover_34 : decode cX4_mixMover 34 = .ok (.bipush 10, 2) := by decide +kernel
theorem dX4_mixMover_36 : decode cX4_mixMover 36 = .ok (.invokevirtual 211, 3) := by decide +kernel
theorem dX4_mixMover_39 : decode cX4_mixMover 39 = .ok (.i2l, 1) := by decide +kernel
theorem dX4_mixMover_40 : decode cX4_mixMover 40 = .ok (.invokevirtual 227, 3) := by decide +kernel
theorem dX4_mixMover_43 : decode cX4_mixMover 43 = .ok (.aload_n 0, 1) := by decide +kernel
theorem dX4_mixMover_44 : decode cX4_mixMover 44 = .ok (.aload_n 0, 1) := by decide +kernel
theorem dX4_mixMover_45 : decode cX4_mixMover 45 = .ok (.iload_n 1, 1) := by decide +kernel
theorem dX4_mixMover_46 : decode cX4_mixMover 46 = .ok (.invokevirtual 218, 3) := by decide +kernel
theorem dX4_mixMover_49 : decode cX4_mixMover 49 = .ok (.invokestatic 231, 3) := by decide +kernel
theorem dX4_mixMover_52 : decode cX4_mixMover 52 = .ok (.invokevirtual 227, 3) := by decide +kernel
theorem dX4_mixMover_55 : decode cX4_mixMover 55 = .ok (.return_, 1) := by decide +kernel
set_option maxRecDepth 20000 in
theorem ggX4_digest_X4_counted : GoodIn wsX4_digest wsX4_counted := goodIn_r _ [12, 4, 5, 13, 14, 15, 16, 11, 17, 18, 19, 20, 21, 22, 23, 24, 25, 26, 27, 28, 29, 30, 31, 32, 33, 34, 35, 36, 37, 38, 39, 40, 41, 42, 43, 44, 45, 46, 47, 48, 49, 50, 51, 52, 53, 54, 55, 56, 57, 58, 59, 60, 61, 154, 155, 156, 157, 158, 159, 160, 161, 162, 163, 164, 165, 166, 167, 168, 169, 170, 171, 172, 173, 174, 175] (by decide +kernel) (by decide +kernel)
set_option maxRecDepth 20000 in
theorem gX4_digest_X4_counted : GoodIn wsX4_digest (wsV RX4 202 RX4 yX4_counted wsX4_counted) := goodIn_app (goodIn_of _ (by decide +kernel)) ggX4_digest_X4_counted
set_option maxRecDepth 20000 in
theorem ggX4_digest_X4_mix : GoodIn wsX4_digest wsX4_mix := goodIn_r _ [65, 66, 3, 154, 155, 156, 157, 158, 159, 160, 161, 162, 163, 164, 165, 166, 167, 168, 169, 170, 171, 172, 173, 174, 175] (by decide +kernel) (by decide +kernel)
set_option maxRecDepth 20000 in
theorem gX4_digest_X4_mix : GoodIn wsX4_digest (wsV RX4 227 RX4 yX4_mix wsX4_mix) := goodIn_app (goodIn_of _ (by decide +kernel)) ggX4_digest_X4_mix
set_option maxRecDepth 20000 in
theorem ggX4_digest_X4_has : GoodIn wsX4_digest wsX4_has := goodIn_r _ [41, 4, 42, 43, 11, 44, 154, 155, 156, 157, 158, 159, 160, 161, 162, 163, 164, 165, 166, 167, 168, 169, 170, 171, 172, 173, 174, 175] (by decide +kernel) (by decide +kernel)
set_option maxRecDepth 20000 in
theorem gX4_digest_X4_has : GoodIn wsX4_digest (wsV RX4 49 RX4 yX4_has wsX4_has) := goodIn_app (goodIn_of _ (by decide +kernel)) ggX4_digest_X4_has
set_option maxRecDepth 20000 in
theorem ggX4_digest_X4_mixMover : GoodIn wsX4_digest wsX4_mixMover := goodIn_r _ [70, 62, 63, 64, 11, 65, 66, 3, 71, 72, 73, 74, 4, 42, 43, 44, 75, 76, 77, 78, 38, 39, 40, 41, 45, 46, 47, 48, 79, 80, 81, 82, 24, 25, 26, 27, 28, 29, 30, 31, 32, 33, 34, 35, 36, 37, 83, 84, 85, 86, 22, 23, 87, 88, 89, 90, 5, 21, 14, 15, 16, 17, 18, 19, 20, 49, 50, 51, 52, 53, 91, 92, 93, 94, 95, 96, 97, 98, 99, 100, 101, 102, 103, 104, 105, 106, 107, 108, 109, 110, 111, 112, 113, 114, 115, 116, 117, 118, 119, 120, 121, 154, 155, 156, 157, 158, 159, 160, 161, 162, 163, 164, 165, 166, 167, 168, 169, 170, 171, 172, 173, 174, 175] (by decide +kernel) (by decide +kernel)
set_option maxRecDepth 20000 in
theorem gX4_digest_X4_mixMover : GoodIn wsX4_digest (wsV RX4 239 RX4 yX4_mixMover wsX4_mixMover) := goodIn_app (goodIn_of _ (by decide +kernel)) ggX4_digest_X4_mixMover
set_option maxRecDepth 20000 in
theorem ggX4_digest_X4_contestOf : GoodIn wsX4_digest wsX4_contestOf := goodIn_r _ [125, 4, 18, 19, 20, 24, 25, 26, 11, 27, 28, 29, 30, 31, 32, 33, 34, 35, 36, 37, 38, 39, 40, 41, 42, 43, 44, 45, 46, 47, 48, 126, 127, 128, 129, 49, 50, 51, 52, 53, 91, 92, 93, 94, 95, 96, 97, 154, 155, 156, 157, 158, 159, 160, 161, 162, 163, 164, 165, 166, 167, 168, 169, 170, 171, 172, 173, 174, 175] (by decide +kernel) (by decide +kernel)
set_option maxRecDepth 20000 in
theorem gX4_digest_X4_contestOf : GoodIn wsX4_digest (wsV RX4 190 RX4 yX4_contestOf wsX4_contestOf) := goodIn_app (goodIn_of _ (by decide +kernel)) ggX4_digest_X4_contestOf
set_option maxRecDepth 20000 in
theorem ggX4_digest_X4_turnOf : GoodIn wsX4_digest wsX4_turnOf := goodIn_r _ [133, 134, 135, 136, 137, 138, 139, 140, 11, 141, 18, 53, 19, 20, 24, 25, 26, 27, 28, 29, 30, 31, 32, 33, 34, 35, 36, 37, 38, 39, 40, 41, 4, 42, 43, 44, 45, 46, 47, 48, 49, 50, 51, 52, 91, 92, 93, 94, 95, 96, 97, 154, 155, 156, 157, 158, 159, 160, 161, 162, 163, 164, 165, 166, 167, 168, 169, 170, 171, 172, 173, 174, 175] (by decide +kernel) (by decide +kernel)
set_option maxRecDepth 20000 in
theorem gX4_digest_X4_turnOf : GoodIn wsX4_digest (wsV RX4 193 RX4 yX4_turnOf wsX4_turnOf) := goodIn_app (goodIn_of _ (by decide +kernel)) ggX4_digest_X4_turnOf
set_option maxRecDepth 20000 in
theorem ggX4_digest_X4_laySpans : GoodIn wsX4_digest wsX4_laySpans := goodIn_r _ [17, 5, 18, 19, 20, 21, 22, 23, 24, 25, 26, 11, 27, 28, 29, 30, 31, 32, 33, 34, 35, 36, 37, 38, 39, 40, 41, 4, 42, 43, 44, 45, 46, 47, 48, 49, 50, 51, 52, 53, 154, 155, 156, 157, 158, 159, 160, 161, 162, 163, 164, 165, 166, 167, 168, 169, 170, 171, 172, 173, 174, 175] (by decide +kernel) (by decide +kernel)
set_option maxRecDepth 20000 in
theorem gX4_digest_X4_laySpans : GoodIn wsX4_digest (wsV RX4 165 RX4 yX4_laySpans wsX4_laySpans) := goodIn_app (goodIn_of _ (by decide +kernel)) ggX4_digest_X4_laySpans
set_option maxRecDepth 20000 in
theorem ggX4_digest_X4_spanTold : GoodIn wsX4_digest wsX4_spanTold := goodIn_r _ [145, 21, 22, 23, 91, 92, 93, 11, 94, 4, 95, 96, 97, 154, 155, 156, 157, 158, 159, 160, 161, 162, 163, 164, 165, 166, 167, 168, 169, 170, 171, 172, 173, 174, 175] (by decide +kernel) (by decide +kernel)
set_option maxRecDepth 20000 in
theorem gX4_digest_X4_spanTold : GoodIn wsX4_digest (wsV RX4 196 RX4 yX4_spanTold wsX4_spanTold) := goodIn_app (goodIn_of _ (by decide +kernel)) ggX4_digest_X4_spanTold
set_option maxRecDepth 20000 in
theorem ggX4_digest_X4_winnerAt : GoodIn wsX4_digest wsX4_winnerAt := goodIn_r _ [31, 32, 33, 11, 34, 35, 36, 37, 38, 39, 40, 41, 4, 42, 43, 44, 45, 46, 47, 48, 154, 155, 156, 157, 158, 159, 160, 161, 162, 163, 164, 165, 166, 167, 168, 169, 170, 171, 172, 173, 174, 175] (by decide +kernel) (by decide +kernel)
set_option maxRecDepth 20000 in
theorem gX4_digest_X4_winnerAt : GoodIn wsX4_digest (wsV RX4 63 RX4 yX4_winnerAt wsX4_winnerAt) := goodIn_app (goodIn_of _ (by decide +kernel)) ggX4_digest_X4_winnerAt
set_option maxRecDepth 20000 in
theorem ggX4_digest_X4_turnsAll : GoodIn wsX4_digest wsX4_turnsAll := goodIn_r _ [149, 150, 151, 152, 11, 153, 18, 19, 20, 24, 25, 26, 27, 28, 29, 30, 31, 32, 33, 34, 35, 36, 37, 38, 39, 40, 41, 4, 42, 43, 44, 45, 46, 47, 48, 49, 50, 51, 52, 53, 154, 155, 156, 157, 158, 159, 160, 161, 162, 163, 164, 165, 166, 167, 168, 169, 170, 171, 172, 173, 174, 175] (by decide +kernel) (by decide +kernel)
set_option maxRecDepth 20000 in
theorem gX4_digest_X4_turnsAll : GoodIn wsX4_digest (wsV RX4 208 RX4 yX4_turnsAll wsX4_turnsAll) := goodIn_app (goodIn_of _ (by decide +kernel)) ggX4_digest_X4_turnsAll
theorem dX4_digest_0 : decode cX4_digest 0 = .ok (.aload_n 0, 1) := by decide +kernel
theorem dX4_digest_1 : decode cX4_digest 1 = .ok (.iconst 0, 1) := by decide +kernel
theorem dX4_digest_2 : decode cX4_digest 2 = .ok (.putfield 34, 3) := by decide +kernel
theorem dX4_digest_5 : decode cX4_digest 5 = .ok (.aload_n 0, 1) := by decide +kernel
theorem dX4_digest_6 : decode cX4_digest 6 = .ok (.ldc2_w 237, 3) := by decide +kernel
theorem dX4_digest_9 : decode cX4_digest 9 = .ok (.putfield 223, 3) := by decide +kernel
theorem dX4_digest_12 : decode cX4_digest 12 = .ok (.iconst 0, 1) := by decide +kernel
theorem dX4_digest_13 : decode cX4_digest 13 = .ok (.istore_n 1, 1) := by decide +kernel
theorem dX4_digest_14 : decode cX4_digest 14 = .ok (.iload_n 1, 1) := by decide +kernel
theorem dX4_digest_15 : decode cX4_digest 15 = .ok (.bipush 7, 2) := by decide +kernel
theorem dX4_digest_17 : decode cX4_digest 17 = .ok (.if_icmp .ge 19, 3) := by decide +kernel
theorem dX4_digest_20 : decode cX4_digest 20 = .ok (.aload_n 0, 1) := by decide +kernel
theorem dX4_digest_21 : decode cX4_digest 21 = .ok (.aload_n 0, 1) := by decide +kernel
theorem dX4_digest_22 : decode cX4_digest 22 = .ok (.iload_n 1, 1) := by decide +kernel
theorem dX4_digest_23 : decode cX4_digest 23 = .ok (.invokevirtual 202, 3) := by decide +kernel
theorem dX4_digest_26 : decode cX4_digest 26 = .ok (.i2l, 1) := by decide +kernel
theorem dX4_digest_27 : decode cX4_digest 27 = .ok (.invokevirtual 227, 3) := by decide +kernel
theorem dX4_digest_30 : decode cX4_digest 30 = .ok (.iinc 1 1, 3) := by decide +kernel
theorem dX4_digest_33 : decode cX4_digest 33 = .ok (.goto (-19), 3) := by decide +kernel
theorem dX4_digest_36 : decode cX4_digest 36 = .ok (.aload_n 0, 1) := by decide +kernel
theorem dX4_digest_37 : decode cX4_digest 37 = .ok (.aload_n 0, 1) := by decide +kernel
theorem dX4_digest_38 : decode cX4_digest 38 = .ok (.getfield 7, 3) := by decide +kernel
theorem dX4_digest_41 : decode cX4_digest 41 = .ok (.iconst 1, 1) := by decide +kernel
theorem dX4_digest_42 : decode cX4_digest 42 = .ok (.iaload, 1) := by decide +kernel
theorem dX4_digest_43 : decode cX4_digest 43 = .ok (.i2l, 1) := by decide +kernel
theorem dX4_digest_44 : decode cX4_digest 44 = .ok (.invokevirtual 227, 3) := by decide +kernel
theorem dX4_digest_47 : decode cX4_digest 47 = .ok (.aload_n 0, 1) := by decide +kernel
theorem dX4_digest_48 : decode cX4_digest 48 = .ok (.aload_n 0, 1) := by decide +kernel
theorem dX4_digest_49 : decode cX4_digest 49 = .ok (.getfield 7, 3) := by decide +kernel
theorem dX4_digest_52 : decode cX4_digest 52 = .ok (.iconst 2, 1) := by decide +kernel
theorem dX4_digest_53 : decode cX4_digest 53 = .ok (.iaload, 1) := by decide +kernel
theorem dX4_digest_54 : decode cX4_digest 54 = .ok (.i2l, 1) := by decide +kernel
theorem dX4_digest_55 : decode cX4_digest 55 = .ok (.invokevirtual 227, 3) := by decide +kernel
theorem dX4_digest_58 : decode cX4_digest 58 = .ok (.iconst 0, 1) := by decide +kernel
theorem dX4_digest_59 : decode cX4_digest 59 = .ok (.istore_n 1, 1) := by decide +kernel
theorem dX4_digest_60 : decode cX4_digest 60 = .ok (.iload_n 1, 1) := by decide +kernel
theorem dX4_digest_61 : decode cX4_digest 61 = .ok (.bipush 16, 2) := by decide +kernel
theorem dX4_digest_63 : decode cX4_digest 63 = .ok (.if_icmp .ge 22, 3) := by decide +kernel
theorem dX4_digest_66 : decode cX4_digest 66 = .ok (.aload_n 0, 1) := by decide +kernel
theorem dX4_digest_67 : decode cX4_digest 67 = .ok (.iload_n 1, 1) := by decide +kernel
theorem dX4_digest_68 : decode cX4_digest 68 = .ok (.invokevirtual 49, 3) := by decide +kernel
theorem dX4_digest_71 : decode cX4_digest 71 = .ok (.ifCond .eq 8, 3) := by decide +kernel
theorem dX4_digest_74 : decode cX4_digest 74 = .ok (.aload_n 0, 1) := by decide +kernel
theorem dX4_digest_75 : decode cX4_digest 75 = .ok (.iload_n 1, 1) := by decide +kernel
theorem dX4_digest_76 : decode cX4_digest 76 = .ok (.invokevirtual 239, 3) := by decide +kernel
theorem dX4_digest_79 : decode cX4_digest 79 = .ok (.iinc 1 1, 3) := by decide +kernel
theorem dX4_digest_82 : decode cX4_digest 82 = .ok (.goto (-22), 3) := by decide +kernel
theorem dX4_digest_85 : decode cX4_digest 85 = .ok (.iconst 0, 1) := by decide +kernel
theorem dX4_digest_86 : decode cX4_digest 86 = .ok (.istore_n 1, 1) := by decide +kernel
theorem dX4_digest_87 : decode cX4_digest 87 = .ok (.iload_n 1, 1) := by decide +kernel
theorem dX4_digest_88 : decode cX4_digest 88 = .ok (.bipush 90, 2) := by decide +kernel
theorem dX4_digest_90 : decode cX4_digest 90 = .ok (.if_icmp .ge 28, 3) := by decide +kernel
theorem dX4_digest_93 : decode cX4_digest 93 = .ok (.aload_n 0, 1) := by decide +kernel
theorem dX4_digest_94 : decode cX4_digest 94 = .ok (.aload_n 0, 1) := by decide +kernel
theorem dX4_digest_95 : decode cX4_digest 95 = .ok (.iconst 1, 1) := by decide +kernel
theorem dX4_digest_96 : decode cX4_digest 96 = .ok (.iload_n 1, 1) := by decide +kernel
theorem dX4_digest_97 : decode cX4_digest 97 = .ok (.bipush 6, 2) := by decide +kernel
theorem dX4_digest_99 : decode cX4_digest 99 = .ok (.idiv, 1) := by decide +kernel
theorem dX4_digest_100 : decode cX4_digest 100 = .ok (.iadd, 1) := by decide +kernel
theorem dX4_digest_101 : decode cX4_digest 101 = .ok (.iload_n 1, 1) := by decide +kernel
theorem dX4_digest_102 : decode cX4_digest 102 = .ok (.bipush 6, 2) := by decide +kernel
theorem dX4_digest_104 : decode cX4_digest 104 = .ok (.irem, 1) := by decide +kernel
theorem dX4_digest_105 : decode cX4_digest 105 = .ok (.invokevirtual 190, 3) := by decide +kernel
theorem dX4_digest_108 : decode cX4_digest 108 = .ok (.i2l, 1) := by decide +kernel
theorem dX4_digest_109 : decode cX4_digest 109 = .ok (.invokevirtual 227, 3) := by decide +kernel
theorem dX4_digest_112 : decode cX4_digest 112 = .ok (.iinc 1 1, 3) := by decide +kernel
theorem dX4_digest_115 : decode cX4_digest 115 = .ok (.goto (-28), 3) := by decide +kernel
theorem dX4_digest_118 : decode cX4_digest 118 = .ok (.iconst 0, 1) := by decide +kernel
theorem dX4_digest_119 : decode cX4_digest 119 = .ok (.istore_n 1, 1) := by decide +kernel
theorem dX4_digest_120 : decode cX4_digest 120 = .ok (.iload_n 1, 1) := by decide +kernel
theorem dX4_digest_121 : decode cX4_digest 121 = .ok (.iconst 4, 1) := by decide +kernel
theorem dX4_digest_122 : decode cX4_digest 122 = .ok (.if_icmp .ge 19, 3) := by decide +kernel
theorem dX4_digest_125 : decode cX4_digest 125 = .ok (.aload_n 0, 1) := by decide +kernel
theorem dX4_digest_126 : decode cX4_digest 126 = .ok (.aload_n 0, 1) := by decide +kernel
theorem dX4_digest_127 : decode cX4_digest 127 = .ok (.iload_n 1, 1) := by decide +kernel
theorem dX4_digest_128 : decode cX4_digest 128 = .ok (.invokevirtual 193, 3) := by decide +kernel
theorem dX4_digest_131 : decode cX4_digest 131 = .ok (.i2l, 1) := by decide +kernel
theorem dX4_digest_132 : decode cX4_digest 132 = .ok (.invokevirtual 227, 3) := by decide +kernel
theorem dX4_digest_135 : decode cX4_digest 135 = .ok (.iinc 1 1, 3) := by decide +kernel
theorem dX4_digest_138 : decode cX4_digest 138 = .ok (.goto (-18), 3) := by decide +kernel
theorem dX4_digest_141 : decode cX4_digest 141 = .ok (.aload_n 0, 1) := by decide +kernel
theorem dX4_digest_142 : decode cX4_digest 142 = .ok (.invokevirtual 165, 3) := by decide +kernel
theorem dX4_digest_145 : decode cX4_digest 145 = .ok (.iconst 0, 1) := by decide +kernel
theorem dX4_digest_146 : decode cX4_digest 146 = .ok (.istore_n 1, 1) := by decide +kernel
theorem dX4_digest_147 : decode cX4_digest 147 = .ok (.iload_n 1, 1) := by decide +kernel
theorem dX4_digest_148 : decode cX4_digest 148 = .ok (.iconst 3, 1) := by decide +kernel
theorem dX4_digest_149 : decode cX4_digest 149 = .ok (.aload_n 0, 1) := by decide +kernel
theorem dX4_digest_150 : decode cX4_digest 150 = .ok (.getfield 162, 3) := by decide +kernel
theorem dX4_digest_153 : decode cX4_digest 153 = .ok (.imul, 1) := by decide +kernel
theorem dX4_digest_154 : decode cX4_digest 154 = .ok (.if_icmp .ge 24, 3) := by decide +kernel
theorem dX4_digest_157 : decode cX4_digest 157 = .ok (.aload_n 0, 1) := by decide +kernel
theorem dX4_digest_158 : decode cX4_digest 158 = .ok (.aload_n 0, 1) := by decide +kernel
theorem dX4_digest_159 : decode cX4_digest 159 = .ok (.iload_n 1, 1) := by decide +kernel
theorem dX4_digest_160 : decode cX4_digest 160 = .ok (.iconst 3, 1) := by decide +kernel
theorem dX4_digest_161 : decode cX4_digest 161 = .ok (.idiv, 1) := by decide +kernel
theorem dX4_digest_162 : decode cX4_digest 162 = .ok (.iload_n 1, 1) := by decide +kernel
theorem dX4_digest_163 : decode cX4_digest 163 = .ok (.iconst 3, 1) := by decide +kernel
theorem dX4_digest_164 : decode cX4_digest 164 = .ok (.irem, 1) := by decide +kernel
theorem dX4_digest_165 : decode cX4_digest 165 = .ok (.invokevirtual 196, 3) := by decide +kernel
theorem dX4_digest_168 : decode cX4_digest 168 = .ok (.i2l, 1) := by decide +kernel
theorem dX4_digest_169 : decode cX4_digest 169 = .ok (.invokevirtual 227, 3) := by decide +kernel
theorem dX4_digest_172 : decode cX4_digest 172 = .ok (.iinc 1 1, 3) := by decide +kernel
