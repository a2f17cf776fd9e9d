theorem dX1_say_48 : decode cX1_say 48 = .ok (.goto 9, 3) := by decide +kernel
theorem dX1_say_51 : decode cX1_say 51 = .ok (.aload_n 0, 1) := by decide +kernel
theorem dX1_say_52 : decode cX1_say 52 = .ok (.iload_n 2, 1) := by decide +kernel
theorem dX1_say_53 : decode cX1_say 53 = .ok (.iload_n 1, 1) := by decide +kernel
theorem dX1_say_54 : decode cX1_say 54 = .ok (.invokevirtual 89, 3) := by decide +kernel
theorem dX1_say_57 : decode cX1_say 57 = .ok (.ireturn, 1) := by decide +kernel
set_option maxRecDepth 20000 in
theorem ggX1_cough_X1_isSpeaker : GoodIn wsX1_cough wsX1_isSpeaker := goodIn_r _ [6, 7, 8, 5, 9] (by decide +kernel) (by decide +kernel)
set_option maxRecDepth 20000 in
theorem gX1_cough_X1_isSpeaker : GoodIn wsX1_cough (va_wsS RX1 83 yX1_isSpeaker wsX1_isSpeaker) := goodIn_app (goodIn_of _ (by decide +kernel)) ggX1_cough_X1_isSpeaker
set_option maxRecDepth 20000 in
theorem ggX1_cough_X1_fail : GoodIn wsX1_cough wsX1_fail := goodIn_r _ [13, 1, 21, 22, 23, 24, 25, 26, 27] (by decide +kernel) (by decide +kernel)
set_option maxRecDepth 20000 in
theorem gX1_cough_X1_fail : GoodIn wsX1_cough (wsV RX1 86 RX1 yX1_fail wsX1_fail) := goodIn_app (goodIn_of _ (by decide +kernel)) ggX1_cough_X1_fail
set_option maxRecDepth 20000 in
theorem ggX1_cough_X1_put : GoodIn wsX1_cough wsX1_put := goodIn_r _ [17, 18, 2, 19, 20, 21, 22, 23, 24, 25, 26, 27] (by decide +kernel) (by decide +kernel)
set_option maxRecDepth 20000 in
theorem gX1_cough_X1_put : GoodIn wsX1_cough (wsV RX1 89 RX1 yX1_put wsX1_put) := goodIn_app (goodIn_of _ (by decide +kernel)) ggX1_cough_X1_put
theorem dX1_cough_0 : decode cX1_cough 0 = .ok (.aload_n 0, 1) := by decide +kernel
theorem dX1_cough_1 : decode cX1_cough 1 = .ok (.iconst 0, 1) := by decide +kernel
theorem dX1_cough_2 : decode cX1_cough 2 = .ok (.putfield 24, 3) := by decide +kernel
theorem dX1_cough_5 : decode cX1_cough 5 = .ok (.iload_n 1, 1) := by decide +kernel
theorem dX1_cough_6 : decode cX1_cough 6 = .ok (.invokestatic 83, 3) := by decide +kernel
theorem dX1_cough_9 : decode cX1_cough 9 = .ok (.ifCond .ne 9, 3) := by decide +kernel
theorem dX1_cough_12 : decode cX1_cough 12 = .ok (.aload_n 0, 1) := by decide +kernel
theorem dX1_cough_13 : decode cX1_cough 13 = .ok (.iconst 1, 1) := by decide +kernel
theorem dX1_cough_14 : decode cX1_cough 14 = .ok (.invokevirtual 86, 3) := by decide +kernel
theorem dX1_cough_17 : decode cX1_cough 17 = .ok (.ireturn, 1) := by decide +kernel
theorem dX1_cough_18 : decode cX1_cough 18 = .ok (.aload_n 0, 1) := by decide +kernel
theorem dX1_cough_19 : decode cX1_cough 19 = .ok (.getfield 31, 3) := by decide +kernel
theorem dX1_cough_22 : decode cX1_cough 22 = .ok (.bipush 24, 2) := by decide +kernel
theorem dX1_cough_24 : decode cX1_cough 24 = .ok (.if_icmp .ne 11, 3) := by decide +kernel
theorem dX1_cough_27 : decode cX1_cough 27 = .ok (.aload_n 0, 1) := by decide +kernel
theorem dX1_cough_28 : decode cX1_cough 28 = .ok (.iconst 2, 1) := by decide +kernel
theorem dX1_cough_29 : decode cX1_cough 29 = .ok (.invokevirtual 86, 3) := by decide +kernel
theorem dX1_cough_32 : decode cX1_cough 32 = .ok (.goto 9, 3) := by decide +kernel
theorem dX1_cough_35 : decode cX1_cough 35 = .ok (.aload_n 0, 1) := by decide +kernel
theorem dX1_cough_36 : decode cX1_cough 36 = .ok (.iconst (-1), 1) := by decide +kernel
theorem dX1_cough_37 : decode cX1_cough 37 = .ok (.iload_n 1, 1) := by decide +kernel
theorem dX1_cough_38 : decode cX1_cough 38 = .ok (.invokevirtual 89, 3) := by decide +kernel
theorem dX1_cough_41 : decode cX1_cough 41 = .ok (.ireturn, 1) := by decide +kernel
theorem dX1_move_0 : decode cX1_move 0 = .ok (.aload_n 0, 1) := by decide +kernel
theorem dX1_move_1 : decode cX1_move 1 = .ok (.getfield 13, 3) := by decide +kernel
theorem dX1_move_4 : decode cX1_move 4 = .ok (.iload_n 1, 1) := by decide +kernel
theorem dX1_move_5 : decode cX1_move 5 = .ok (.aload_n 0, 1) := by decide +kernel
theorem dX1_move_6 : decode cX1_move 6 = .ok (.getfield 13, 3) := by decide +kernel
theorem dX1_move_9 : decode cX1_move 9 = .ok (.iload_n 1, 1) := by decide +kernel
theorem dX1_move_10 : decode cX1_move 10 = .ok (.iload_n 2, 1) := by decide +kernel
theorem dX1_move_11 : decode cX1_move 11 = .ok (.iadd, 1) := by decide +kernel
theorem dX1_move_12 : decode cX1_move 12 = .ok (.aload_n 0, 1) := by decide +kernel
theorem dX1_move_13 : decode cX1_move 13 = .ok (.getfield 31, 3) := by decide +kernel
theorem dX1_move_16 : decode cX1_move 16 = .ok (.iload_n 1, 1) := by decide +kernel
theorem dX1_move_17 : decode cX1_move 17 = .ok (.isub, 1) := by decide +kernel
theorem dX1_move_18 : decode cX1_move 18 = .ok (.invokestatic 92, 3) := by decide +kernel
theorem dX1_move_21 : decode cX1_move 21 = .ok (.aload_n 0, 1) := by decide +kernel
theorem dX1_move_22 : decode cX1_move 22 = .ok (.getfield 17, 3) := by decide +kernel
theorem dX1_move_25 : decode cX1_move 25 = .ok (.iload_n 1, 1) := by decide +kernel
theorem dX1_move_26 : decode cX1_move 26 = .ok (.aload_n 0, 1) := by decide +kernel
theorem dX1_move_27 : decode cX1_move 27 = .ok (.getfield 17, 3) := by decide +kernel
theorem dX1_move_30 : decode cX1_move 30 = .ok (.iload_n 1, 1) := by decide +kernel
theorem dX1_move_31 : decode cX1_move 31 = .ok (.iload_n 2, 1) := by decide +kernel
theorem dX1_move_32 : decode cX1_move 32 = .ok (.iadd, 1) := by decide +kernel
theorem dX1_move_33 : decode cX1_move 33 = .ok (.aload_n 0, 1) := by decide +kernel
theorem dX1_move_34 : decode cX1_move 34 = .ok (.getfield 31, 3) := by decide +kernel
theorem dX1_move_37 : decode cX1_move 37 = .ok (.iload_n 1, 1) := by decide +kernel
theorem dX1_move_38 : decode cX1_move 38 = .ok (.isub, 1) := by decide +kernel
theorem dX1_move_39 : decode cX1_move 39 = .ok (.invokestatic 92, 3) := by decide +kernel
theorem dX1_move_42 : decode cX1_move 42 = .ok (.aload_n 0, 1) := by decide +kernel
theorem dX1_move_43 : decode cX1_move 43 = .ok (.getfield 20, 3) := by decide +kernel
theorem dX1_move_46 : decode cX1_move 46 = .ok (.iload_n 1, 1) := by decide +kernel
theorem dX1_move_47 : decode cX1_move 47 = .ok (.aload_n 0, 1) := by decide +kernel
theorem dX1_move_48 : decode cX1_move 48 = .ok (.getfield 20, 3) := by decide +kernel
theorem dX1_move_51 : decode cX1_move 51 = .ok (.iload_n 1, 1) := by decide +kernel
theorem dX1_move_52 : decode cX1_move 52 = .ok (.iload_n 2, 1) := by decide +kernel
theorem dX1_move_53 : decode cX1_move 53 = .ok (.iadd, 1) := by decide +kernel
theorem dX1_move_54 : decode cX1_move 54 = .ok (.aload_n 0, 1) := by decide +kernel
theorem dX1_move_55 : decode cX1_move 55 = .ok (.getfield 31, 3) := by decide +kernel
theorem dX1_move_58 : decode cX1_move 58 = .ok (.iload_n 1, 1) := by decide +kernel
theorem dX1_move_59 : decode cX1_move 59 = .ok (.isub, 1) := by decide +kernel
theorem dX1_move_60 : decode cX1_move 60 = .ok (.invokestatic 92, 3) := by decide +kernel
theorem dX1_move_63 : decode cX1_move 63 = .ok (.aload_n 0, 1) := by decide +kernel
theorem dX1_move_64 : decode cX1_move 64 = .ok (.dup, 1) := by decide +kernel
theorem dX1_move_65 : decode cX1_move 65 = .ok (.getfield 31, 3) := by decide +kernel
theorem dX1_move_68 : decode cX1_move 68 = .ok (.iload_n 2, 1) := by decide +kernel
theorem dX1_move_69 : decode cX1_move 69 = .ok (.iadd, 1) := by decide +kernel
theorem dX1_move_70 : decode cX1_move 70 = .ok (.putfield 31, 3) := by decide +kernel
theorem dX1_move_73 : decode cX1_move 73 = .ok (.return_, 1) := by decide +kernel
set_option maxRecDepth 20000 in
theorem ggX1_removeCough_X1_isPlace : GoodIn wsX1_removeCough wsX1_isPlace := goodIn_r _ [9, 4, 10, 11, 8, 12, 32, 33, 34, 35, 36, 37, 38] (by decide +kernel) (by decide +kernel)
set_option maxRecDepth 20000 in
theorem gX1_removeCough_X1_isPlace : GoodIn wsX1_removeCough (wsV RX1 98 RX1 yX1_isPlace wsX1_isPlace) := goodIn_app (goodIn_of _ (by decide +kernel)) ggX1_removeCough_X1_isPlace
set_option maxRecDepth 20000 in
theorem ggX1_removeCough_X1_fail : GoodIn wsX1_removeCough wsX1_fail := goodIn_r _ [16, 1, 32, 33, 34, 35, 36, 37, 38] (by decide +kernel) (by decide +kernel)
set_option maxRecDepth 20000 in
theorem gX1_removeCough_X1_fail : GoodIn wsX1_removeCough (wsV RX1 86 RX1 yX1_fail wsX1_fail) := goodIn_app (goodIn_of _ (by decide +kernel)) ggX1_removeCough_X1_fail
set_option maxRecDepth 20000 in
theorem ggX1_removeCough_X1_move : GoodIn wsX1_removeCough wsX1_move := goodIn_r _ [20, 2, 4, 21, 22, 23, 24, 25, 26, 32, 33, 34, 35, 36, 37, 38] (by decide +kernel) (by decide +kernel)
set_option maxRecDepth 20000 in
theorem gX1_removeCough_X1_move : GoodIn wsX1_removeCough (wsV RX1 101 RX1 yX1_move wsX1_move) := goodIn_app (goodIn_of _ (by decide +kernel)) ggX1_removeCough_X1_move
set_option maxRecDepth 20000 in
theorem ggX1_removeCough_X1_pay : GoodIn wsX1_removeCough wsX1_pay := goodIn_r _ [30, 3, 31, 32, 33, 34, 35, 36, 37, 38] (by decide +kernel) (by decide +kernel)
set_option maxRecDepth 20000 in
theorem gX1_removeCough_X1_pay : GoodIn wsX1_removeCough (wsV RX1 105 RX1 yX1_pay wsX1_pay) := goodIn_app (goodIn_of _ (by decide +kernel)) ggX1_removeCough_X1_pay
theorem dX1_removeCough_0 : decode cX1_removeCough 0 = .ok (.aload_n 0, 1) := by decide +kernel
theorem dX1_removeCough_1 : decode cX1_removeCough 1 = .ok (.iconst 0, 1) := by decide +kernel
theorem dX1_removeCough_2 : decode cX1_removeCough 2 = .ok (.putfield 24, 3) := by decide +kernel
theorem dX1_removeCough_5 : decode cX1_removeCough 5 = .ok (.aload_n 0, 1) := by decide +kernel
theorem dX1_removeCough_6 : decode cX1_removeCough 6 = .ok (.iload_n 1, 1) := by decide +kernel
theorem dX1_removeCough_7 : decode cX1_removeCough 7 = .ok (.invokevirtual 98, 3) := by decide +kernel
theorem dX1_removeCough_10 : decode cX1_removeCough 10 = .ok (.ifCond .ne 9, 3) := by decide +kernel
theorem dX1_removeCough_13 : decode cX1_removeCough 13 = .ok (.aload_n 0, 1) := by decide +kernel
theorem dX1_removeCough_14 : decode cX1_removeCough 14 = .ok (.iconst 1, 1) := by decide +kernel
theorem dX1_removeCough_15 : decode cX1_removeCough 15 = .ok (.invokevirtual 86, 3) := by decide +kernel
theorem dX1_removeCough_18 : decode cX1_removeCough 18 = .ok (.ireturn, 1) := by decide +kernel
theorem dX1_removeCough_19 : decode cX1_removeCough 19 = .ok (.aload_n 0, 1) := by decide +kernel
theorem dX1_removeCough_20 : decode cX1_removeCough 20 = .ok (.getfield 13, 3) := by decide +kernel
theorem dX1_removeCough_23 : decode cX1_removeCough 23 = .ok (.iload_n 1, 1) := by decide +kernel
theorem dX1_removeCough_24 : decode cX1_removeCough 24 = .ok (.iaload, 1) := by decide +kernel
theorem dX1_removeCough_25 : decode cX1_removeCough 25 = .ok (.ifCond .ge 11, 3) := by decide +kernel
theorem dX1_removeCough_28 : decode cX1_removeCough 28 = .ok (.aload_n 0, 1) := by decide +kernel
theorem dX1_removeCough_29 : decode cX1_removeCough 29 = .ok (.getfield 7, 3) := by decide +kernel
theorem dX1_removeCough_32 : decode cX1_removeCough 32 = .ok (.iconst 1, 1) := by decide +kernel
theorem dX1_removeCough_33 : decode cX1_removeCough 33 = .ok (.if_icmp .ge 9, 3) := by decide +kernel
theorem dX1_removeCough_36 : decode cX1_removeCough 36 = .ok (.aload_n 0, 1) := by decide +kernel
theorem dX1_removeCough_37 : decode cX1_removeCough 37 = .ok (.iconst 2, 1) := by decide +kernel
theorem dX1_removeCough_38 : decode cX1_removeCough 38 = .ok (.invokevirtual 86, 3) := by decide +kernel
theorem dX1_removeCough_41 : decode cX1_removeCough 41 = .ok (.ireturn, 1) := by decide +kernel
theorem dX1_removeCough_42 : decode cX1_removeCough 42 = .ok (.aload_n 0, 1) := by decide +kernel
theorem dX1_removeCough_43 : decode cX1_removeCough 43 = .ok (.iload_n 1, 1) := by decide +kernel
theorem dX1_removeCough_44 : decode cX1_removeCough 44 = .ok (.iconst 1, 1) := by decide +kernel
theorem dX1_removeCough_45 : decode cX1_removeCough 45 = .ok (.iadd, 1) := by decide +kernel
theorem dX1_removeCough_46 : decode cX1_removeCough 46 = .ok (.iconst (-1), 1) := by decide +kernel
theorem dX1_removeCough_47 : decode cX1_removeCough 47 = .ok (.invokevirtual 101, 3) := by decide +kernel
theorem dX1_removeCough_50 : decode cX1_removeCough 50 = .ok (.aload_n 0, 1) := by decide +kernel
theorem dX1_removeCough_51 : decode cX1_removeCough 51 = .ok (.iconst 1, 1) := by decide +kernel
theorem dX1_removeCough_52 : decode cX1_removeCough 52 = .ok (.invokevirtual 105, 3) := by decide +kernel
theorem dX1_removeCough_55 : decode cX1_removeCough 55 = .ok (.pop, 1) := by decide +kernel
theorem dX1_removeCough_56 : decode cX1_removeCough 56 = .ok (.aload_n 0, 1) := by decide +kernel
theorem dX1_removeCough_57 : decode cX1_removeCough 57 = .ok (.getfield 31, 3) := by decide +kernel
theorem dX1_removeCough_60 : decode cX1_removeCough 60 = .ok (.ireturn, 1) := by decide +kernel
set_option maxRecDepth 20000 in
theorem ggX1_threadsNow_X1_many : GoodIn wsX1_threadsNow wsX1_many := goodIn_r _ [5, 6, 7, 55, 56, 57, 58, 59, 60, 61] (by decide +kernel) (by decide +kernel)
set_option maxRecDepth 20000 in
theorem gX1_threadsNow_X1_many : GoodIn wsX1_threadsNow (wsV RX1 34 RX1 yX1_many wsX1_many) := goodIn_app (goodIn_of _ (by decide +kernel)) ggX1_threadsNow_X1_many
set_option maxRecDepth 20000 in
theorem ggX1_threadsNow_X1_allBroken : GoodIn wsX1_threadsNow wsX1_allBroken := goodIn_r _ [11, 1, 2, 3, 4, 5, 6, 7, 12, 13, 14, 15, 16, 17, 18, 19, 20, 21, 22, 23, 24, 25, 26, 27, 28, 29, 30, 31, 32, 33, 34, 35, 36, 37, 38, 39, 40, 41, 42, 43, 44, 45, 46, 47, 48, 49, 50, 51, 52, 53, 54, 55, 56, 57, 58, 59, 60, 61] (by decide +kernel) (by decide +kernel)
set_option maxRecDepth 20000 in
theorem gX1_threadsNow_X1_allBroken : GoodIn wsX1_threadsNow (wsV RX1 108 RX1 yX1_allBroken wsX1_allBroken) := goodIn_app (goodIn_of _ (by decide +kernel)) ggX1_threadsNow_X1_allBroken
theorem dX1_threadsNow_0 : decode cX1_threadsNow 0 = .ok (.aload_n 0, 1) := by decide +kernel
theorem dX1_threadsNow_1 : decode cX1_threadsNow 1 = .ok (.invokevirtual 34, 3) := by decide +kernel
theorem dX1_threadsNow_4 : decode cX1_threadsNow 4 = .ok (.ifCond .ne 7, 3) := by decide +kernel
theorem dX1_threadsNow_7 : decode cX1_threadsNow 7 = .ok (.iconst 0, 1) := by decide +kernel
theorem dX1_threadsNow_8 : decode cX1_threadsNow 8 = .ok (.goto 9, 3) := by decide +kernel
theorem dX1_threadsNow_11 : decode cX1_threadsNow 11 = .ok (.aload_n 0, 1) := by decide +kernel
theorem dX1_threadsNow_12 : decode cX1_threadsNow 12 = .ok (.invokevirtual 108, 3) := by decide +kernel
theorem dX1_threadsNow_15 : decode cX1_threadsNow 15 = .ok (.iconst 1, 1) := by decide +kernel
theorem dX1_threadsNow_16 : decode cX1_threadsNow 16 = .ok (.iadd, 1) := by decide +kernel
theorem dX1_threadsNow_17 : decode cX1_threadsNow 17 = .ok (.ireturn, 1) := by decide +kernel
set_option maxRecDepth 20000 in
theorem ggX1_tie_X1_isGap : GoodIn wsX1_tie wsX1_isGap := goodIn_r _ [8, 9, 10, 11, 7, 12, 13, 14, 15, 16, 17, 77, 78, 79, 80, 81, 82, 83] (by decide +kernel) (by decide +kernel)
set_option maxRecDepth 20000 in
theorem gX1_tie_X1_isGap : GoodIn wsX1_tie (wsV RX1 111 RX1 yX1_isGap wsX1_isGap) := goodIn_app (goodIn_of _ (by decide +kernel)) ggX1_tie_X1_isGap
set_option maxRecDepth 20000 in
theorem ggX1_tie_X1_fail : GoodIn wsX1_tie wsX1_fail := goodIn_r _ [21, 1, 77, 78, 79, 80, 81, 82, 83] (by decide +kernel) (by decide +kernel)
set_option maxRecDepth 20000 in
theorem gX1_tie_X1_fail : GoodIn wsX1_tie (wsV RX1 86 RX1 yX1_fail wsX1_fail) := goodIn_app (goodIn_of _ (by decide +kernel)) ggX1_tie_X1_fail
set_option maxRecDepth 20000 in
theorem ggX1_tie_X1_from : GoodIn wsX1_tie wsX1_from := goodIn_r _ [25, 26, 27, 28, 7, 29, 14, 77, 78, 79, 80, 81, 82, 83] (by decide +kernel) (by decide +kernel)
set_option maxRecDepth 20000 in
theorem gX1_tie_X1_from : GoodIn wsX1_tie (wsV RX1 54 RX1 yX1_from wsX1_from) := goodIn_app (goodIn_of _ (by decide +kernel)) ggX1_tie_X1_from
set_option maxRecDepth 20000 in
theorem ggX1_tie_X1_pay : GoodIn wsX1_tie wsX1_pay := goodIn_r _ [33, 3, 34, 77, 78, 79, 80, 81, 82, 83] (by decide +kernel) (by decide +kernel)
set_option maxRecDepth 20000 in
theorem gX1_tie_X1_pay : GoodIn wsX1_tie (wsV RX1 105 RX1 yX1_pay wsX1_pay) := goodIn_app (goodIn_of _ (by decide +kernel)) ggX1_tie_X1_pay
set_option maxRecDepth 20000 in
theorem ggX1_tie_X1_threadsNow : GoodIn wsX1_tie wsX1_threadsNow := goodIn_r _ [38, 9, 10, 11, 7, 12, 13, 14, 39, 40, 41, 42, 43, 44, 45, 46, 2, 22, 23, 24, 25, 26, 27, 28, 29, 47, 48, 49, 50, 51, 52, 53, 54, 55, 56, 57, 58, 59, 60, 61, 62, 63, 64, 65, 66, 67, 68, 69, 70, 71, 72, 73, 74, 75, 76, 77, 78, 79, 80, 81, 82, 83] (by decide +kernel) (by decide +kernel)
set_option maxRecDepth 20000 in
theorem gX1_tie_X1_threadsNow : GoodIn wsX1_tie (wsV RX1 114 RX1 yX1_threadsNow wsX1_threadsNow) := goodIn_app (goodIn_of _ (by decide +kernel)) ggX1_tie_X1_threadsNow
theorem dX1_tie_0 : decode cX1_tie 0 = .ok (.aload_n 0, 1) := by decide +kernel
theorem dX1_tie_1 : decode cX1_tie 1 = .ok (.iconst 0, 1) := by decide +kernel
theorem dX1_tie_2 : decode cX1_tie 2 = .ok (.putfield 24, 3) := by decide +kernel
theorem dX1_tie_5 : decode cX1_tie 5 = .ok (.aload_n 0, 1) := by decide +kernel
theorem dX1_tie_6 : decode cX1_tie 6 = .ok (.iload_n 1, 1) := by decide +kernel
theorem dX1_tie_7 : decode cX1_tie 7 = .ok (.invokevirtual 111, 3) := by decide +kernel
theorem dX1_tie_10 : decode cX1_tie 10 = .ok (.ifCond .ne 9, 3) := by decide +kernel
theorem dX1_tie_13 : decode cX1_tie 13 = .ok (.aload_n 0, 1) := by decide +kernel
theorem dX1_tie_14 : decode cX1_tie 14 = .ok (.iconst 1, 1) := by decide +kernel
theorem dX1_tie_15 : decode cX1_tie 15 = .ok (.invokevirtual 86, 3) := by decide +kernel
theorem dX1_tie_18 : decode cX1_tie 18 = .ok (.ireturn, 1) := by decide +kernel
theorem dX1_tie_19 : decode cX1_tie 19 = .ok (.aload_n 0, 1) := by decide +kernel
theorem dX1_tie_20 : decode cX1_tie 20 = .ok (.getfield 20, 3) := by decide +kernel
theorem dX1_tie_23 : decode cX1_tie 23 = .ok (.aload_n 0, 1) := by decide +kernel
theorem dX1_tie_24 : decode cX1_tie 24 = .ok (.iload_n 1, 1) := by decide +kernel
theorem dX1_tie_25 : decode cX1_tie 25 = .ok (.invokevirtual 54, 3) := by decide +kernel
theorem dX1_tie_28 : decode cX1_tie 28 = .ok (.baload, 1) := by decide +kernel
theorem dX1_tie_29 : decode cX1_tie 29 = .ok (.ifCond .ne 11, 3) := by decide +kernel
theorem dX1_tie_32 : decode cX1_tie 32 = .ok (.aload_n 0, 1) := by decide +kernel
theorem dX1_tie_33 : decode cX1_tie 33 = .ok (.getfield 7, 3) := by decide +kernel
theorem dX1_tie_36 : decode cX1_tie 36 = .ok (.iconst 3, 1) := by decide +kernel
theorem dX1_tie_37 : decode cX1_tie 37 = .ok (.if_icmp .ge 9, 3) := by decide +kernel
theorem dX1_tie_40 : decode cX1_tie 40 = .ok (.aload_n 0, 1) := by decide +kernel
theorem dX1_tie_41 : decode cX1_tie 41 = .ok (.iconst 2, 1) := by decide +kernel
theorem dX1_tie_42 : decode cX1_tie 42 = .ok (.invokevirtual 86, 3) := by decide +kernel
theorem dX1_tie_45 : decode cX1_tie 45 = .ok (.ireturn, 1) := by decide +kernel
theorem dX1_tie_46 : decode cX1_tie 46 = .ok (.aload_n 0, 1) := by decide +kernel
theorem dX1_tie_47 : decode cX1_tie 47 = .ok (.getfield 20, 3) := by decide +kernel
theorem dX1_tie_50 : decode cX1_tie 50 = .ok (.aload_n 0, 1) := by decide +kernel
theorem dX1_tie_51 : decode cX1_tie 51 = .ok (.iload_n 1, 1) := by decide +kernel
theorem dX1_tie_52 : decode cX1_tie 52 = .ok (.invokevirtual 54, 3) := by decide +kernel
theorem dX1_tie_55 : decode cX1_tie 55 = .ok (.iconst 1, 1) := by decide +kernel
theorem dX1_tie_56 : decode cX1_tie 56 = .ok (.bastore, 1) := by decide +kernel
theorem dX1_tie_57 : decode cX1_tie 57 = .ok (.aload_n 0, 1) := by decide +kernel
theorem dX1_tie_58 : decode cX1_tie 58 = .ok (.iconst 3, 1) := by decide +kernel
theorem dX1_tie_59 : decode cX1_tie 59 = .ok (.invokevirtual 105, 3) := by decide +kernel
theorem dX1_tie_62 : decode cX1_tie 62 = .ok (.pop, 1) := by decide +kernel
theorem dX1_tie_63 : decode cX1_tie 63 = .ok (.aload_n 0, 1) := by decide +kernel
theorem dX1_tie_64 : decode cX1_tie 64 = .ok (.invokevirtual 114, 3) := by decide +kernel
theorem dX1_tie_67 : decode cX1_tie 67 = .ok (.ireturn, 1) := by decide +kernel
set_option maxRecDepth 20000 in
theorem ggX1_half_X1_apart : GoodIn wsX1_half wsX1_apart := goodIn_r _ [4, 5, 6, 7, 8, 9, 10, 11] (by decide +kernel) (by decide +kernel)
set_option maxRecDepth 20000 in
theorem gX1_half_X1_apart : GoodIn wsX1_half (va_wsS RX1 57 yX1_apart wsX1_apart) := goodIn_app (goodIn_of _ (by decide +kernel)) ggX1_half_X1_apart
theorem dX1_half_0 : decode cX1_half 0 = .ok (.iload_n 1, 1) := by decide +kernel
theorem dX1_half_1 : decode cX1_half 1 = .ok (.iload_n 0, 1) := by decide +kernel
theorem dX1_half_2 : decode cX1_half 2 = .ok (.isub, 1) := by decide +kernel
theorem dX1_half_3 : decode cX1_half 3 = .ok (.bipush 10, 2) := by decide +kernel
theorem dX1_half_5 : decode cX1_half 5 = .ok (.iadd, 1) := by decide +kernel
theorem dX1_half_6 : decode cX1_half 6 = .ok (.bipush 10, 2) := by decide +kernel
theorem dX1_half_8 : decode cX1_half 8 = .ok (.irem, 1) := by decide +kernel
theorem dX1_half_9 : decode cX1_half 9 = .ok (.istore_n 2, 1) := by decide +kernel
theorem dX1_half_10 : decode cX1_half 10 = .ok (.iload_n 0, 1) := by decide +kernel
theorem dX1_half_11 : decode cX1_half 11 = .ok (.iload_n 1, 1) := by decide +kernel
theorem dX1_half_12 : decode cX1_half 12 = .ok (.invokestatic 57, 3) := by decide +kernel
theorem dX1_half_15 : decode cX1_half 15 = .ok (.iconst 2, 1) := by decide +kernel
theorem dX1_half_16 : decode cX1_half 16 = .ok (.idiv, 1) := by decide +kernel
theorem dX1_half_17 : decode cX1_half 17 = .ok (.istore_n 3, 1) := by decide +kernel
theorem dX1_half_18 : decode cX1_half 18 = .ok (.iload_n 0, 1) := by decide +kernel
theorem dX1_half_19 : decode cX1_half 19 = .ok (.iload_n 2, 1) := by decide +kernel
theorem dX1_half_20 : decode cX1_half 20 = .ok (.iconst 5, 1) := by decide +kernel
theorem dX1_half_21 : decode cX1_half 21 = .ok (.if_icmp .gt 7, 3) := by decide +kernel
theorem dX1_half_24 : decode cX1_half 24 = .ok (.iload_n 3, 1) := by decide +kernel
theorem dX1_half_25 : decode cX1_half 25 = .ok (.goto 7, 3) := by decide +kernel
theorem dX1_half_28 : decode cX1_half 28 = .ok (.bipush 10, 2) := by decide +kernel
theorem dX1_half_30 : decode cX1_half 30 = .ok (.iload_n 3, 1) := by decide +kernel
theorem dX1_half_31 : decode cX1_half 31 = .ok (.isub, 1) := by decide +kernel
theorem dX1_half_32 : decode cX1_half 32 = .ok (.iadd, 1) := by decide +kernel
theorem dX1_half_33 : decode cX1_half 33 = .ok (.bipush 10, 2) := by decide +kernel
theorem dX1_half_35 : decode cX1_half 35 = .ok (.irem, 1) := by decide +kernel
theorem dX1_half_36 : decode cX1_half 36 = .ok (.ireturn, 1) := by decide +kernel
set_option maxRecDepth 20000 in
theorem ggX1_splice_X1_isGap : GoodIn wsX1_splice wsX1_isGap := goodIn_r _ [11, 12, 13, 14, 10, 15, 3, 5, 16, 17, 18, 61, 62, 63, 64, 65, 66, 67] (by decide +kernel) (by decide +kernel)
set_option maxRecDepth 20000 in
theorem gX1_splice_X1_isGap : GoodIn wsX1_splice (wsV RX1 111 RX1 yX1_isGap wsX1_isGap) := goodIn_app (goodIn_of _ (by decide +kernel)) ggX1_splice_X1_isGap
set_option maxRecDepth 20000 in
theorem ggX1_splice_X1_fail : GoodIn wsX1_splice wsX1_fail := goodIn_r _ [22, 1, 61, 62, 63, 64, 65, 66, 67] (by decide +kernel) (by decide +kernel)
set_option maxRecDepth 20000 in
theorem gX1_splice_X1_fail : GoodIn wsX1_splice (wsV RX1 86 RX1 yX1_fail wsX1_fail) := goodIn_app (goodIn_of _ (by decide +kernel)) ggX1_splice_X1_fail
set_option maxRecDepth 20000 in
theorem ggX1_splice_X1_from : GoodIn wsX1_splice wsX1_from := goodIn_r _ [26, 27, 28, 29, 10, 30, 5, 61, 62, 63, 64, 65, 66, 67] (by decide +kernel) (by decide +kernel)
set_option maxRecDepth 20000 in
theorem gX1_splice_X1_from : GoodIn wsX1_splice (wsV RX1 54 RX1 yX1_from wsX1_from) := goodIn_app (goodIn_of _ (by decide +kernel)) ggX1_splice_X1_from
set_option maxRecDepth 20000 in
theorem ggX1_splice_X1_to : GoodIn wsX1_splice wsX1_to := goodIn_r _ [34, 27, 28, 29, 10, 30, 5, 61, 62, 63, 64, 65, 66, 67] (by decide +kernel) (by decide +kernel)
set_option maxRecDepth 20000 in
theorem gX1_splice_X1_to : GoodIn wsX1_splice (wsV RX1 51 RX1 yX1_to wsX1_to) := goodIn_app (goodIn_of _ (by decide +kernel)) ggX1_splice_X1_to
set_option maxRecDepth 20000 in
theorem ggX1_splice_X1_half : GoodIn wsX1_splice wsX1_half := goodIn_r _ [37, 38, 39, 10, 40, 41, 42, 43, 44, 45, 46, 47] (by decide +kernel) (by decide +kernel)
set_option maxRecDepth 20000 in
theorem gX1_splice_X1_half : GoodIn wsX1_splice (va_wsS RX1 117 yX1_half wsX1_half) := goodIn_app (goodIn_of _ (by decide +kernel)) ggX1_splice_X1_half
set_option maxRecDepth 20000 in
theorem ggX1_splice_X1_move : GoodIn wsX1_splice wsX1_move := goodIn_r _ [51, 5, 3, 52, 53, 54, 55, 6, 2, 61, 62, 63, 64, 65, 66, 67] (by decide +kernel) (by decide +kernel)
set_option maxRecDepth 20000 in
theorem gX1_splice_X1_move : GoodIn wsX1_splice (wsV RX1 101 RX1 yX1_move wsX1_move) := goodIn_app (goodIn_of _ (by decide +kernel)) ggX1_splice_X1_move
set_option maxRecDepth 20000 in
theorem ggX1_splice_X1_pay : GoodIn wsX1_splice wsX1_pay := goodIn_r _ [59, 4, 60, 61, 62, 63, 64, 65, 66, 67] (by decide +kernel) (by decide +kernel)
set_option maxRecDepth 20000 in
theorem gX1_splice_X1_pay : GoodIn wsX1_splice (wsV RX1 105 RX1 yX1_pay wsX1_pay) := goodIn_app (goodIn_of _ (by decide +kernel)) ggX1_splice_X1_pay
theorem dX1_splice_0 : decode cX1_splice 0 = .ok (.aload_n 0, 1) := by decide +kernel
theorem dX1_splice_1 : decode cX1_splice 1 = .ok (.iconst 0, 1) := by decide +kernel
theorem dX1_splice_2 : decode cX1_splice 2 = .ok (.putfield 24, 3) := by decide +kernel
theorem dX1_splice_5 : decode cX1_splice 5 = .ok (.aload_n 0, 1) := by decide +kernel
theorem dX1_splice_6 : decode cX1_splice 6 = .ok (.iload_n 1, 1) := by decide +kernel
theorem dX1_splice_7 : decode cX1_splice 7 = .ok (.invokevirtual 111, 3) := by decide +kernel
theorem dX1_splice_10 : decode cX1_splice 10 = .ok (.ifCond .ne 9, 3) := by decide +kernel
theorem dX1_splice_13 : decode cX1_splice 13 = .ok (.aload_n 0, 1) := by decide +kernel
theorem dX1_splice_14 : decode cX1_splice 14 = .ok (.iconst 1, 1) := by decide +kernel
theorem dX1_splice_15 : decode cX1_splice 15 = .ok (.invokevirtual 86, 3) := by decide +kernel
theorem dX1_splice_18 : decode cX1_splice 18 = .ok (.ireturn, 1) := by decide +kernel
theorem dX1_splice_19 : decode cX1_splice 19 = .ok (.aload_n 0, 1) := by decide +kernel
theorem dX1_splice_20 : decode cX1_splice 20 = .ok (.iload_n 1, 1) := by decide +kernel
theorem dX1_splice_21 : decode cX1_splice 21 = .ok (.invokevirtual 54, 3) := by decide +kernel
theorem dX1_splice_24 : decode cX1_splice 24 = .ok (.istore_n 2, 1) := by decide +kernel
theorem dX1_splice_25 : decode cX1_splice 25 = .ok (.aload_n 0, 1) := by decide +kernel
theorem dX1_splice_26 : decode cX1_splice 26 = .ok (.getfield 20, 3) := by decide +kernel
theorem dX1_splice_29 : decode cX1_splice 29 = .ok (.iload_n 2, 1) := by decide +kernel
theorem dX1_splice_30 : decode cX1_splice 30 = .ok (.baload, 1) := by decide +kernel
theorem dX1_splice_31 : decode cX1_splice 31 = .ok (.ifCond .ne 20, 3) := by decide +kernel
theorem dX1_splice_34 : decode cX1_splice 34 = .ok (.aload_n 0, 1) := by decide +kernel
theorem dX1_splice_35 : decode cX1_splice 35 = .ok (.getfield 31, 3) := by decide +kernel
theorem dX1_splice_38 : decode cX1_splice 38 = .ok (.bipush 24, 2) := by decide +kernel
theorem dX1_splice_40 : decode cX1_splice 40 = .ok (.if_icmp .eq 11, 3) := by decide +kernel
theorem dX1_splice_43 : decode cX1_splice 43 = .ok (.aload_n 0, 1) := by decide +kernel
theorem dX1_splice_44 : decode cX1_splice 44 = .ok (.getfield 7, 3) := by decide +kernel
theorem dX1_splice_47 : decode cX1_splice 47 = .ok (.iconst 2, 1) := by decide +kernel
theorem dX1_splice_48 : decode cX1_splice 48 = .ok (.if_icmp .ge 9, 3) := by decide +kernel
theorem dX1_splice_51 : decode cX1_splice 51 = .ok (.aload_n 0, 1) := by decide +kernel
theorem dX1_splice_52 : decode cX1_splice 52 = .ok (.iconst 2, 1) := by decide +kernel
theorem dX1_splice_53 : decode cX1_splice 53 = .ok (.invokevirtual 86, 3) := by decide +kernel
theorem dX1_splice_56 : decode cX1_splice 56 = .ok (.ireturn, 1) := by decide +kernel
theorem dX1_splice_57 : decode cX1_splice 57 = .ok (.aload_n 0, 1) := by decide +kernel
theorem dX1_splice_58 : decode cX1_splice 58 = .ok (.getfield 13, 3) := by decide +kernel
theorem dX1_splice_61 : decode cX1_splice 61 = .ok (.iload_n 2, 1) := by decide +kernel
theorem dX1_splice_62 : decode cX1_splice 62 = .ok (.iaload, 1) := by decide +kernel
theorem dX1_splice_63 : decode cX1_splice 63 = .ok (.aload_n 0, 1) := by decide +kernel
theorem dX1_splice_64 : decode cX1_splice 64 = .ok (.getfield 13, 3) := by decide +kernel
theorem dX1_splice_67 : decode cX1_splice 67 = .ok (.aload_n 0, 1) := by decide +kernel
theorem dX1_splice_68 : decode cX1_splice 68 = .ok (.iload_n 1, 1) := by decide +kernel
theorem dX1_splice_69 : decode cX1_splice 69 = .ok (.invokevirtual 51, 3) := by decide +kernel
theorem dX1_splice_72 : decode cX1_splice 72 = .ok (.iaload, 1) := by decide +kernel
theorem dX1_splice_73 : decode cX1_splice 73 = .ok (.invokestatic 117, 3) := by decide +kernel
theorem dX1_splice_76 : decode cX1_splice 76 = .ok (.istore_n 3, 1) := by decide +kernel
theorem dX1_splice_77 : decode cX1_splice 77 = .ok (.aload_n 0, 1) := by decide +kernel
theorem dX1_splice_78 : decode cX1_splice 78 = .ok (.iload_n 2, 1) := by decide +kernel
theorem dX1_splice_79 : decode cX1_splice 79 = .ok (.iconst 1, 1) := by decide +kernel
theorem dX1_splice_80 : decode cX1_splice 80 = .ok (.iadd, 1) := by decide +kernel
theorem dX1_splice_81 : decode cX1_splice 81 = .ok (.iconst 1, 1) := by decide +kernel
theorem dX1_splice_82 : decode cX1_splice 82 = .ok (.invokevirtual 101, 3) := by decide +kernel
theorem dX1_splice_85 : decode cX1_splice 85 = .ok (.aload_n 0, 1) := by decide +kernel
theorem dX1_splice_86 : decode cX1_splice 86 = .ok (.getfield 13, 3) := by decide +kernel
theorem dX1_splice_89 : decode cX1_splice 89 = .ok (.iload_n 2, 1) := by decide +kernel
theorem dX1_splice_90 : decode cX1_splice 90 = .ok (.iconst 1, 1) := by decide +kernel
theorem dX1_splice_91 : decode cX1_splice 91 = .ok (.iadd, 1) := by decide +kernel
theorem dX1_splice_92 : decode cX1_splice 92 = .ok (.iload_n 3, 1) := by decide +kernel
theorem dX1_splice_93 : decode cX1_splice 93 = .ok (.iastore, 1) := by decide +kernel
theorem dX1_splice_94 : decode cX1_splice 94 = .ok (.aload_n 0, 1) := by decide +kernel
theorem dX1_splice_95 : decode cX1_splice 95 = .ok (.getfield 17, 3) := by decide +kernel
theorem dX1_splice_98 : decode cX1_splice 98 = .ok (.iload_n 2, 1) := by decide +kernel
theorem dX1_splice_99 : decode cX1_splice 99 = .ok (.iconst 1, 1) := by decide +kernel
theorem dX1_splice_100 : decode cX1_splice 100 = .ok (.iadd, 1) := by decide +kernel
theorem dX1_splice_101 : decode cX1_splice 101 = .ok (.aload_n 0, 1) := by decide +kernel
theorem dX1_splice_102 : decode cX1_splice 102 = .ok (.getfield 17, 3) := by decide +kernel
theorem dX1_splice_105 : decode cX1_splice 105 = .ok (.iload_n 2, 1) := by decide +kernel
theorem dX1_splice_106 : decode cX1_splice 106 = .ok (.iaload, 1) := by decide +kernel
theorem dX1_splice_107 : decode cX1_splice 107 = .ok (.iastore, 1) := by decide +kernel
theorem dX1_splice_108 : decode cX1_splice 108 = .ok (.aload_n 0, 1) := by decide +kernel
theorem dX1_splice_109 : decode cX1_splice 109 = .ok (.getfield 20, 3) := by decide +kernel
theorem dX1_splice_112 : decode cX1_splice 112 = .ok (.iload_n 2, 1) := by decide +kernel
theorem dX1_splice_113 : decode cX1_splice 113 = .ok (.iconst 1, 1) := by decide +kernel
theorem dX1_splice_114 : decode cX1_splice 114 = .ok (.iadd, 1) := by decide +kernel
theorem dX1_splice_115 : decode cX1_splice 115 = .ok (.iconst 0, 1) := by decide +kernel
theorem dX1_splice_116 : decode cX1_splice 116 = .ok (.bastore, 1) := by decide +kernel
theorem dX1_splice_117 : decode cX1_splice 117 = .ok (.aload_n 0, 1) := by decide +kernel
theorem dX1_splice_118 : decode cX1_splice 118 = .ok (.iconst 2, 1) := by decide +kernel
theorem dX1_splice_119 : decode cX1_splice 119 = .ok (.invokevirtual 105, 3) := by decide +kernel
theorem dX1_splice_122 : decode cX1_splice 122 = .ok (.pop, 1) := by decide +kernel
theorem dX1_splice_123 : decode cX1_splice 123 = .ok (.iload_n 3, 1) := by decide +kernel
theorem dX1_splice_124 : decode cX1_splice 124 = .ok (.ireturn, 1) := by decide +kernel
set_option maxRecDepth 20000 in
theorem ggX1_rest_X1_isIn : GoodIn wsX1_rest wsX1_isIn := goodIn_r _ [10] (by decide +kernel) (by decide +kernel)
set_option maxRecDepth 20000 in
theorem gX1_rest_X1_isIn : GoodIn wsX1_rest (va_wsS RX1 27 yX1_isIn wsX1_isIn) := goodIn_app (goodIn_of _ (by decide +kernel)) ggX1_rest_X1_isIn
set_option maxRecDepth 20000 in
theorem ggX1_rest_X1_fail : GoodIn wsX1_rest wsX1_fail := goodIn_r _ [14, 1, 15, 16, 17, 18, 19, 20, 21] (by decide +kernel) (by decide +kernel)
set_option maxRecDepth 20000 in
theorem gX1_rest_X1_fail : GoodIn wsX1_rest (wsV RX1 86 RX1 yX1_fail wsX1_fail) := goodIn_app (goodIn_of _ (by decide +kernel)) ggX1_rest_X1_fail
theorem dX1_rest_0 : decode cX1_rest 0 = .ok (.aload_n 0, 1) := by decide +kernel
theorem dX1_rest_1 : decode cX1_rest 1 = .ok (.iconst 0, 1) := by decide +kernel
theorem dX1_rest_2 : decode cX1_rest 2 = .ok (.putfield 24, 3) := by decide +kernel
theorem dX1_rest_5 : decode cX1_rest 5 = .ok (.iload_n 1, 1) := by decide +kernel
theorem dX1_rest_6 : decode cX1_rest 6 = .ok (.iconst 1, 1) := by decide +kernel
theorem dX1_rest_7 : decode cX1_rest 7 = .ok (.bipush 60, 2) := by decide +kernel
theorem dX1_rest_9 : decode cX1_rest 9 = .ok (.invokestatic 27, 3) := by decide +kernel
theorem dX1_rest_12 : decode cX1_rest 12 = .ok (.ifCond .ne 9, 3) := by decide +kernel
theorem dX1_rest_15 : decode cX1_rest 15 = .ok (.aload_n 0, 1) := by decide +kernel
theorem dX1_rest_16 : decode cX1_rest 16 = .ok (.iconst 1, 1) := by decide +kernel
theorem dX1_rest_17 : decode cX1_rest 17 = .ok (.invokevirtual 86, 3) := by decide +kernel
theorem dX1_rest_20 : decode cX1_rest 20 = .ok (.ireturn, 1) := by decide +kernel
theorem dX1_rest_21 : decode cX1_rest 21 = .ok (.aload_n 0, 1) := by decide +kernel
theorem dX1_rest_22 : decode cX1_rest 22 = .ok (.bipush 99, 2) := by decide +kernel
theorem dX1_rest_24 : decode cX1_rest 24 = .ok (.aload_n 0, 1) := by decide +kernel
theorem dX1_rest_25 : decode cX1_rest 25 = .ok (.getfield 7, 3) := by decide +kernel
theorem dX1_rest_28 : decode cX1_rest 28 = .ok (.iload_n 1, 1) := by decide +kernel
theorem dX1_rest_29 : decode cX1_rest 29 = .ok (.iadd, 1) := by decide +kernel
theorem dX1_rest_30 : decode cX1_rest 30 = .ok (.invokestatic 44, 3) := by decide +kernel
theorem dX1_rest_33 : decode cX1_rest 33 = .ok (.putfield 7, 3) := by decide +kernel
theorem dX1_rest_36 : decode cX1_rest 36 = .ok (.aload_n 0, 1) := by decide +kernel
theorem dX1_rest_37 : decode cX1_rest 37 = .ok (.getfield 7, 3) := by decide +kernel
theorem dX1_rest_40 : decode cX1_rest 40 = .ok (.ireturn, 1) := by decide +kernel
set_option maxRecDepth 20000 in
theorem ggX1_remarks_X1_told : GoodIn wsX1_remarks wsX1_told := goodIn_r _ [6, 7, 8, 9, 10, 11, 12, 13, 14] (by decide +kernel) (by decide +kernel)
set_option maxRecDepth 20000 in
theorem gX1_remarks_X1_told : GoodIn wsX1_remarks (wsV RX1 120 RX1 yX1_told wsX1_told) := goodIn_app (goodIn_of _ (by decide +kernel)) ggX1_remarks_X1_told
theorem dX1_remarks_0 : decode cX1_remarks 0 = .ok (.aload_n 0, 1) := by decide +kernel
theorem dX1_remarks_1 : decode cX1_remarks 1 = .ok (.aload_n 0, 1) := by decide +kernel
theorem dX1_remarks_2 : decode cX1_remarks 2 = .ok (.getfield 31, 3) := by decide +kernel
theorem dX1_remarks_5 : decode cX1_remarks 5 = .ok (.invokevirtual 120, 3) := by decide +kernel
theorem dX1_remarks_8 : decode cX1_remarks 8 = .ok (.ireturn, 1) := by decide +kernel
set_option maxRecDepth 20000 in
theorem ggX1_words_X1_many : GoodIn wsX1_words wsX1_many := goodIn_r _ [5, 6, 7, 13, 14, 15, 16, 17, 18, 19] (by decide +kernel) (by decide +kernel)
set_option maxRecDepth 20000 in
theorem gX1_words_X1_many : GoodIn wsX1_words (wsV RX1 34 RX1 yX1_many wsX1_many) := goodIn_app (goodIn_of _ (by decide +kernel)) ggX1_words_X1_many
set_option maxRecDepth 20000 in
theorem ggX1_words_X1_told : GoodIn wsX1_words wsX1_told := goodIn_r _ [11, 12, 13, 14, 15, 16, 17, 18, 19] (by decide +kernel) (by decide +kernel)
set_option maxRecDepth 20000 in
theorem gX1_words_X1_told : GoodIn wsX1_words (wsV RX1 120 RX1 yX1_told wsX1_told) := goodIn_app (goodIn_of _ (by decide +kernel)) ggX1_words_X1_told
theorem dX1_words_0 : decode cX1_words 0 = .ok (.aload_n 0, 1) := by decide +kernel
theorem dX1_words_1 : decode cX1_words 1 = .ok (.aload_n 0, 1) := by decide +kernel
theorem dX1_words_2 : decode cX1_words 2 = .ok (.invokevirtual 34, 3) := by decide +kernel
theorem dX1_words_5 : decode cX1_words 5 = .ok (.invokevirtual 120, 3) := by decide +kernel
theorem dX1_words_8 : decode cX1_words 8 = .ok (.ireturn, 1) := by decide +kernel
set_option maxRecDepth 20000 in
theorem ggX1_coughs_X1_many : GoodIn wsX1_coughs wsX1_many := goodIn_r _ [6, 1, 7, 13, 14, 15, 16, 17, 18, 19] (by decide +kernel) (by decide +kernel)
set_option maxRecDepth 20000 in
theorem gX1_coughs_X1_many : GoodIn wsX1_coughs (wsV RX1 34 RX1 yX1_many wsX1_many) := goodIn_app (goodIn_of _ (by decide +kernel)) ggX1_coughs_X1_many
set_option maxRecDepth 20000 in
theorem ggX1_coughs_X1_told : GoodIn wsX1_coughs wsX1_told := goodIn_r _ [11, 12, 13, 14, 15, 16, 17, 18, 19] (by decide +kernel) (by decide +kernel)
set_option maxRecDepth 20000 in
theorem gX1_coughs_X1_told : GoodIn wsX1_coughs (wsV RX1 120 RX1 yX1_told wsX1_told) := goodIn_app (goodIn_of _ (by decide +kernel)) ggX1_coughs_X1_told
theorem dX1_coughs_0 : decode cX1_coughs 0 = .ok (.aload_n 0, 1) := by decide +kernel
theorem dX1_coughs_1 : decode cX1_coughs 1 = .ok (.aload_n 0, 1) := by decide +kernel
theorem dX1_coughs_2 : decode cX1_coughs 2 = .ok (.getfield 31, 3) := by decide +kernel
theorem dX1_coughs_5 : decode cX1_coughs 5 = .ok (.aload_n 0, 1) := by decide +kernel
theorem dX1_coughs_6 : decode cX1_coughs 6 = .ok (.invokevirtual 34, 3) := by decide +kernel
theorem dX1_coughs_9 : decode cX1_coughs 9 = .ok (.isub, 1) := by decide +kernel
theorem dX1_coughs_10 : decode cX1_coughs 10 = .ok (.invokevirtual 120, 3) := by decide +kernel
theorem dX1_coughs_13 : decode cX1_coughs 13 = .ok (.ireturn, 1) := by decide +kernel
set_option maxRecDepth 20000 in
theorem ggX1_patience_X1_told : GoodIn wsX1_patience wsX1_told := goodIn_r _ [6, 7, 8, 9, 10, 11, 12, 13, 14] (by decide +kernel) (by decide +kernel)
set_option maxRecDepth 20000 in
theorem gX1_patience_X1_told : GoodIn wsX1_patience (wsV RX1 120 RX1 yX1_told wsX1_told) := goodIn_app (goodIn_of _ (by decide +kernel)) ggX1_patience_X1_told
theorem dX1_patience_0 : decode cX1_patience 0 = .ok (.aload_n 0, 1) := by decide +kernel
theorem dX1_patience_1 : decode cX1_patience 1 = .ok (.aload_n 0, 1) := by decide +kernel
theorem dX1_patience_2 : decode cX1_patience 2 = .ok (.getfield 7, 3) := by decide +kernel
theorem dX1_patience_5 : decode cX1_patience 5 = .ok (.invokevirtual 120, 3) := by decide +kernel
theorem dX1_patience_8 : decode cX1_patience 8 = .ok (.ireturn, 1) := by decide +kernel
set_option maxRecDepth 20000 in
theorem ggX1_spent_X1_told : GoodIn wsX1_spent wsX1_told := goodIn_r _ [6, 7, 8, 9, 10, 11, 12, 13, 14] (by decide +kernel) (by decide +kernel)
set_option maxRecDepth 20000 in
theorem gX1_spent_X1_told : GoodIn wsX1_spent (wsV RX1 120 RX1 yX1_told wsX1_told) := goodIn_app (goodIn_of _ (by decide +kernel)) ggX1_spent_X1_told
theorem dX1_spent_0 : decode cX1_spent 0 = .ok (.aload_n 0, 1) := by decide +kernel
theorem dX1_spent_1 : decode cX1_spent 1 = .ok (.aload_n 0, 1) := by decide +kernel
theorem dX1_spent_2 : decode cX1_spent 2 = .ok (.getfield 80, 3) := by decide +kernel
theorem dX1_spent_5 : decode cX1_spent 5 = .ok (.invokevirtual 120, 3) := by decide +kernel
theorem dX1_spent_8 : decode cX1_spent 8 = .ok (.ireturn, 1) := by decide +kernel
set_option maxRecDepth 20000 in
theorem ggX1_isCough_X1_isPlace : GoodIn wsX1_isCough wsX1_isPlace := goodIn_r _ [7, 8, 9, 10, 6, 11, 12, 13, 14, 15, 16, 17, 18] (by decide +kernel) (by decide +kernel)
set_option maxRecDepth 20000 in
theorem gX1_isCough_X1_isPlace : GoodIn wsX1_isCough (wsV RX1 98 RX1 yX1_isPlace wsX1_isPlace) := goodIn_app (goodIn_of _ (by decide +kernel)) ggX1_isCough_X1_isPlace
theorem dX1_isCough_0 : decode cX1_isCough 0 = .ok (.aload_n 0, 1) := by decide +kernel
theorem dX1_isCough_1 : decode cX1_isCough 1 = .ok (.aload_n 0, 1) := by decide +kernel
theorem dX1_isCough_2 : decode cX1_isCough 2 = .ok (.iload_n 1, 1) := by decide +kernel
theorem dX1_isCough_3 : decode cX1_isCough 3 = .ok (.invokevirtual 98, 3) := by decide +kernel
theorem dX1_isCough_6 : decode cX1_isCough 6 = .ok (.ifCond .eq 7, 3) := by decide +kernel
theorem dX1_isCough_9 : decode cX1_isCough 9 = .ok (.iconst 0, 1) := by decide +kernel
theorem dX1_isCough_10 : decode cX1_isCough 10 = .ok (.goto 4, 3) := by decide +kernel
theorem dX1_isCough_13 : decode cX1_isCough 13 = .ok (.iconst 1, 1) := by decide +kernel
theorem dX1_isCough_14 : decode cX1_isCough 14 = .ok (.putfield 24, 3) := by decide +kernel
theorem dX1_isCough_17 : decode cX1_isCough 17 = .ok (.aload_n 0, 1) := by decide +kernel
theorem dX1_isCough_18 : decode cX1_isCough 18 = .ok (.getfield 24, 3) := by decide +kernel
theorem dX1_isCough_21 : decode cX1_isCough 21 = .ok (.ifCond .ne 16, 3) := by decide +kernel
theorem dX1_isCough_24 : decode cX1_isCough 24 = .ok (.aload_n 0, 1) := by decide +kernel
theorem dX1_isCough_25 : decode cX1_isCough 25 = .ok (.getfield 13, 3) := by decide +kernel
theorem dX1_isCough_28 : decode cX1_isCough 28 = .ok (.iload_n 1, 1) := by decide +kernel
theorem dX1_isCough_29 : decode cX1_isCough 29 = .ok (.iaload, 1) := by decide +kernel
theorem dX1_isCough_30 : decode cX1_isCough 30 = .ok (.ifCond .ge 7, 3) := by decide +kernel
theorem dX1_isCough_33 : decode cX1_isCough 33 = .ok (.iconst 1, 1) := by decide +kernel
theorem dX1_isCough_34 : decode cX1_isCough 34 = .ok (.goto 4, 3) := by decide +kernel
theorem dX1_isCough_37 : decode cX1_isCough 37 = .ok (.iconst 0, 1) := by decide +kernel
theorem dX1_isCough_38 : decode cX1_isCough 38 = .ok (.ireturn, 1) := by decide +kernel
set_option maxRecDepth 20000 in
theorem ggX1_speakerAt_X1_isPlace : GoodIn wsX1_speakerAt wsX1_isPlace := goodIn_r _ [7, 8, 9, 10, 6, 11, 16, 17, 18, 19, 20, 21, 22] (by decide +kernel) (by decide +kernel)
set_option maxRecDepth 20000 in
theorem gX1_speakerAt_X1_isPlace : GoodIn wsX1_speakerAt (wsV RX1 98 RX1 yX1_isPlace wsX1_isPlace) := goodIn_app (goodIn_of _ (by decide +kernel)) ggX1_speakerAt_X1_isPlace
set_option maxRecDepth 20000 in
theorem ggX1_speakerAt_X1_fail : GoodIn wsX1_speakerAt wsX1_fail := goodIn_r _ [15, 1, 16, 17, 18, 19, 20, 21, 22] (by decide +kernel) (by decide +kernel)
set_option maxRecDepth 20000 in
theorem gX1_speakerAt_X1_fail : GoodIn wsX1_speakerAt (wsV RX1 86 RX1 yX1_fail wsX1_fail) := goodIn_app (goodIn_of _ (by decide +kernel)) ggX1_speakerAt_X1_fail
theorem dX1_speakerAt_0 : decode cX1_speakerAt 0 = .ok (.aload_n 0, 1) := by decide +kernel
theorem dX1_speakerAt_1 : decode cX1_speakerAt 1 = .ok (.iconst 0, 1) := by decide +kernel
theorem dX1_speakerAt_2 : decode cX1_speakerAt 2 = .ok (.putfield 24, 3) := by decide +kernel
theorem dX1_speakerAt_5 : decode cX1_speakerAt 5 = .ok (.aload_n 0, 1) := by decide +kernel
theorem dX1_speakerAt_6 : decode cX1_speakerAt 6 = .ok (.iload_n 1, 1) := by decide +kernel
theorem dX1_speakerAt_7 : decode cX1_speakerAt 7 = .ok (.invokevirtual 98, 3) := by decide +kernel
theorem dX1_speakerAt_10 : decode cX1_speakerAt 10 = .ok (.ifCond .eq 12, 3) := by decide +kernel
theorem dX1_speakerAt_13 : decode cX1_speakerAt 13 = .ok (.aload_n 0, 1) := by decide +kernel
theorem dX1_speakerAt_14 : decode cX1_speakerAt 14 = .ok (.getfield 17, 3) := by decide +kernel
theorem dX1_speakerAt_17 : decode cX1_speakerAt 17 = .ok (.iload_n 1, 1) := by decide +kernel
theorem dX1_speakerAt_18 : decode cX1_speakerAt 18 = .ok (.iaload, 1) := by decide +kernel
theorem dX1_speakerAt_19 : decode cX1_speakerAt 19 = .ok (.goto 8, 3) := by decide +kernel
theorem dX1_speakerAt_22 : decode cX1_speakerAt 22 = .ok (.aload_n 0, 1) := by decide +kernel
theorem dX1_speakerAt_23 : decode cX1_speakerAt 23 = .ok (.iconst 1, 1) := by decide +kernel
theorem dX1_speakerAt_24 : decode cX1_speakerAt 24 = .ok (.invokevirtual 86, 3) := by decide +kernel
theorem dX1_speakerAt_27 : decode cX1_speakerAt 27 = .ok (.ireturn, 1) := by decide +kernel
set_option maxRecDepth 20000 in
theorem ggX1_placeOf_X1_isWord : GoodIn wsX1_placeOf wsX1_isWord := goodIn_r _ [6, 7, 8, 9, 5, 10, 11, 12, 13, 14, 15, 24, 25, 26, 27, 28, 29, 30] (by decide +kernel) (by decide +kernel)
set_option maxRecDepth 20000 in
theorem gX1_placeOf_X1_isWord : GoodIn wsX1_placeOf (wsV RX1 123 RX1 yX1_isWord wsX1_isWord) := goodIn_app (goodIn_of _ (by decide +kernel)) ggX1_placeOf_X1_isWord
set_option maxRecDepth 20000 in
theorem ggX1_placeOf_X1_place : GoodIn wsX1_placeOf wsX1_place := goodIn_r _ [19, 12, 24, 25, 26, 27, 28, 29, 30] (by decide +kernel) (by decide +kernel)
set_option maxRecDepth 20000 in
theorem gX1_placeOf_X1_place : GoodIn wsX1_placeOf (wsV RX1 48 RX1 yX1_place wsX1_place) := goodIn_app (goodIn_of _ (by decide +kernel)) ggX1_placeOf_X1_place
set_option maxRecDepth 20000 in
theorem ggX1_placeOf_X1_fail : GoodIn wsX1_placeOf wsX1_fail := goodIn_r _ [23, 1, 24, 25, 26, 27, 28, 29, 30] (by decide +kernel) (by decide +kernel)
set_option maxRecDepth 20000 in
theorem gX1_placeOf_X1_fail : GoodIn wsX1_placeOf (wsV RX1 86 RX1 yX1_fail wsX1_fail) := goodIn_app (goodIn_of _ (by decide +kernel)) ggX1_placeOf_X1_fail
theorem dX1_placeOf_0 : decode cX1_placeOf 0 = .ok (.aload_n 0, 1) := by decide +kernel
theorem dX1_placeOf_1 : decode cX1_placeOf 1 = .ok (.iconst 0, 1) := by decide +kernel
theorem dX1_placeOf_2 : decode cX1_placeOf 2 = .ok (.putfield 24, 3) := by decide +kernel
theorem dX1_placeOf_5 : decode cX1_placeOf 5 = .ok (.aload_n 0, 1) := by decide +kernel
theorem dX1_placeOf_6 : decode cX1_placeOf 6 = .ok (.iload_n 1, 1) := by decide +kernel
theorem dX1_placeOf_7 : decode cX1_placeOf 7 = .ok (.invokevirtual 123, 3) := by decide +kernel
theorem dX1_placeOf_10 : decode cX1_placeOf 10 = .ok (.ifCond .eq 11, 3) := by decide +kernel
theorem dX1_placeOf_13 : decode cX1_placeOf 13 = .ok (.aload_n 0, 1) := by decide +kernel
theorem dX1_placeOf_14 : decode cX1_placeOf 14 = .ok (.iload_n 1, 1) := by decide +kernel
theorem dX1_placeOf_15 : decode cX1_placeOf 15 = .ok (.invokevirtual 48, 3) := by decide +kernel
theorem dX1_placeOf_18 : decode cX1_placeOf 18 = .ok (.goto 8, 3) := by decide +kernel
theorem dX1_placeOf_21 : decode cX1_placeOf 21 = .ok (.aload_n 0, 1) := by decide +kernel
theorem dX1_placeOf_22 : decode cX1_placeOf 22 = .ok (.iconst 1, 1) := by decide +kernel
theorem dX1_placeOf_23 : decode cX1_placeOf 23 = .ok (.invokevirtual 86, 3) := by decide +kernel
theorem dX1_placeOf_26 : decode cX1_placeOf 26 = .ok (.ireturn, 1) := by decide +kernel
set_option maxRecDepth 20000 in
theorem ggX1_topicOf_X1_isWord : GoodIn wsX1_topicOf wsX1_isWord := goodIn_r _ [7, 8, 9, 10, 6, 11, 12, 2, 13, 14, 15, 24, 25, 26, 27, 28, 29, 30] (by decide +kernel) (by decide +kernel)
set_option maxRecDepth 20000 in
theorem gX1_topicOf_X1_isWord : GoodIn wsX1_topicOf (wsV RX1 123 RX1 yX1_isWord wsX1_isWord) := goodIn_app (goodIn_of _ (by decide +kernel)) ggX1_topicOf_X1_isWord
set_option maxRecDepth 20000 in
theorem ggX1_topicOf_X1_place : GoodIn wsX1_topicOf wsX1_place := goodIn_r _ [19, 2, 24, 25, 26, 27, 28, 29, 30] (by decide +kernel) (by decide +kernel)
set_option maxRecDepth 20000 in
theorem gX1_topicOf_X1_place : GoodIn wsX1_topicOf (wsV RX1 48 RX1 yX1_place wsX1_place) := goodIn_app (goodIn_of _ (by decide +kernel)) ggX1_topicOf_X1_place
set_option maxRecDepth 20000 in
theorem ggX1_topicOf_X1_fail : GoodIn wsX1_topicOf wsX1_fail := goodIn_r _ [23, 1, 24, 25, 26, 27, 28, 29, 30] (by decide +kernel) (by decide +kernel)
set_option maxRecDepth 20000 in
theorem gX1_topicOf_X1_fail : GoodIn wsX1_topicOf (wsV RX1 86 RX1 yX1_fail wsX1_fail) := goodIn_app (goodIn_of _ (by decide +kernel)) ggX1_topicOf_X1_fail
theorem dX1_topicOf_0 : decode cX1_topicOf 0 = .ok (.aload_n 0, 1) := by decide +kernel
theorem dX1_topicOf_1 : decode cX1_topicOf 1 = .ok (.iconst 0, 1) := by decide +kernel
theorem dX1_topicOf_2 : decode cX1_topicOf 2 = .ok (.putfield 24, 3) := by decide +kernel
theorem dX1_topicOf_5 : decode cX1_topicOf 5 = .ok (.aload_n 0, 1) := by decide +kernel
theorem dX1_topicOf_6 : decode cX1_topicOf 6 = .ok (.iload_n 1, 1) := by decide +kernel
theorem dX1_topicOf_7 : decode cX1_topicOf 7 = .ok (.invokevirtual 123, 3) := by decide +kernel
theorem dX1_topicOf_10 : decode cX1_topicOf 10 = .ok (.ifCond .eq 16, 3) := by decide +kernel
theorem dX1_topicOf_13 : decode cX1_topicOf 13 = .ok (.aload_n 0, 1) := by decide +kernel
theorem dX1_topicOf_14 : decode cX1_topicOf 14 = .ok (.getfield 13, 3) := by decide +kernel
theorem dX1_topicOf_17 : decode cX1_topicOf 17 = .ok (.aload_n 0, 1) := by decide +kernel
theorem dX1_topicOf_18 : decode cX1_topicOf 18 = .ok (.iload_n 1, 1) := by decide +kernel
theorem dX1_topicOf_19 : decode cX1_topicOf 19 = .ok (.invokevirtual 48, 3) := by decide +kernel
theorem dX1_topicOf_22 : decode cX1_topicOf 22 = .ok (.iaload, 1) := by decide +kernel
theorem dX1_topicOf_23 : decode cX1_topicOf 23 = .ok (.goto 8, 3) := by decide +kernel
theorem dX1_topicOf_26 : decode cX1_topicOf 26 = .ok (.aload_n 0, 1) := by decide +kernel
theorem dX1_topicOf_27 : decode cX1_topicOf 27 = .ok (.iconst 1, 1) := by decide +kernel
theorem dX1_topicOf_28 : decode cX1_topicOf 28 = .ok (.invokevirtual 86, 3) := by decide +kernel
theorem dX1_topicOf_31 : decode cX1_topicOf 31 = .ok (.ireturn, 1) := by decide +kernel
set_option maxRecDepth 20000 in
theorem ggX1_wordsOf_X1_isSpeaker : GoodIn wsX1_wordsOf wsX1_isSpeaker := goodIn_r _ [8, 9, 10, 7, 11] (by decide +kernel) (by decide +kernel)
set_option maxRecDepth 20000 in
theorem gX1_wordsOf_X1_isSpeaker : GoodIn wsX1_wordsOf (va_wsS RX1 83 yX1_isSpeaker wsX1_isSpeaker) := goodIn_app (goodIn_of _ (by decide +kernel)) ggX1_wordsOf_X1_isSpeaker
set_option maxRecDepth 20000 in
theorem ggX1_wordsOf_X1_fail : GoodIn wsX1_wordsOf wsX1_fail := goodIn_r _ [15, 1, 16, 17, 18, 19, 20, 21, 22] (by decide +kernel) (by decide +kernel)
set_option maxRecDepth 20000 in
theorem gX1_wordsOf_X1_fail : GoodIn wsX1_wordsOf (wsV RX1 86 RX1 yX1_fail wsX1_fail) := goodIn_app (goodIn_of _ (by decide +kernel)) ggX1_wordsOf_X1_fail
theorem dX1_wordsOf_0 : decode cX1_wordsOf 0 = .ok (.aload_n 0, 1) := by decide +kernel
theorem dX1_wordsOf_1 : decode cX1_wordsOf 1 = .ok (.iconst 0, 1) := by decide +kernel
theorem dX1_wordsOf_2 : decode cX1_wordsOf 2 = .ok (.putfield 24, 3) := by decide +kernel
theorem dX1_wordsOf_5 : decode cX1_wordsOf 5 = .ok (.iload_n 1, 1) := by decide +kernel
theorem dX1_wordsOf_6 : decode cX1_wordsOf 6 = .ok (.invokestatic 83, 3) := by decide +kernel
theorem dX1_wordsOf_9 : decode cX1_wordsOf 9 = .ok (.ifCond .ne 9, 3) := by decide +kernel
theorem dX1_wordsOf_12 : decode cX1_wordsOf 12 = .ok (.aload_n 0, 1) := by decide +kernel
theorem dX1_wordsOf_13 : decode cX1_wordsOf 13 = .ok (.iconst 1, 1) := by decide +kernel
theorem dX1_wordsOf_14 : decode cX1_wordsOf 14 = .ok (.invokevirtual 86, 3) := by decide +kernel
theorem dX1_wordsOf_17 : decode cX1_wordsOf 17 = .ok (.ireturn, 1) := by decide +kernel
theorem dX1_wordsOf_18 : decode cX1_wordsOf 18 = .ok (.iconst 0, 1) := by decide +kernel
theorem dX1_wordsOf_19 : decode cX1_wordsOf 19 = .ok (.istore_n 2, 1) := by decide +kernel
theorem dX1_wordsOf_20 : decode cX1_wordsOf 20 = .ok (.iconst 0, 1) := by decide +kernel
theorem dX1_wordsOf_21 : decode cX1_wordsOf 21 = .ok (.istore_n 3, 1) := by decide +kernel
theorem dX1_wordsOf_22 : decode cX1_wordsOf 22 = .ok (.iload_n 3, 1) := by decide +kernel
theorem dX1_wordsOf_23 : decode cX1_wordsOf 23 = .ok (.aload_n 0, 1) := by decide +kernel
theorem dX1_wordsOf_24 : decode cX1_wordsOf 24 = .ok (.getfield 31, 3) := by decide +kernel
theorem dX1_wordsOf_27 : decode cX1_wordsOf 27 = .ok (.if_icmp .ge 36, 3) := by decide +kernel
theorem dX1_wordsOf_30 : decode cX1_wordsOf 30 = .ok (.iload_n 2, 1) := by decide +kernel
theorem dX1_wordsOf_31 : decode cX1_wordsOf 31 = .ok (.aload_n 0, 1) := by decide +kernel
theorem dX1_wordsOf_32 : decode cX1_wordsOf 32 = .ok (.getfield 13, 3) := by decide +kernel
theorem dX1_wordsOf_35 : decode cX1_wordsOf 35 = .ok (.iload_n 3, 1) := by decide +kernel
theorem dX1_wordsOf_36 : decode cX1_wordsOf 36 = .ok (.iaload, 1) := by decide +kernel
theorem dX1_wordsOf_37 : decode cX1_wordsOf 37 = .ok (.ifCond .lt 17, 3) := by decide +kernel
theorem dX1_wordsOf_40 : decode cX1_wordsOf 40 = .ok (.aload_n 0, 1) := by decide +kernel
theorem dX1_wordsOf_41 : decode cX1_wordsOf 41 = .ok (.getfield 17, 3) := by decide +kernel
theorem dX1_wordsOf_44 : decode cX1_wordsOf 44 = .ok (.iload_n 3, 1) := by decide +kernel
theorem dX1_wordsOf_45 : decode cX1_wordsOf 45 = .ok (.iaload, 1) := by decide +kernel
theorem dX1_wordsOf_46 : decode cX1_wordsOf 46 = .ok (.iload_n 1, 1) := by decide +kernel
theorem dX1_wordsOf_47 : decode cX1_wordsOf 47 = .ok (.if_icmp .ne 7, 3) := by decide +kernel
theorem dX1_wordsOf_50 : decode cX1_wordsOf 50 = .ok (.iconst 1, 1) := by decide +kernel
theorem dX1_wordsOf_51 : decode cX1_wordsOf 51 = .ok (.goto 4, 3) := by decide +kernel
theorem dX1_wordsOf_54 : decode cX1_wordsOf 54 = .ok (.iconst 0, 1) := by decide +kernel
theorem dX1_wordsOf_55 : decode cX1_wordsOf 55 = .ok (.iadd, 1) := by decide +kernel
theorem dX1_wordsOf_56 : decode cX1_wordsOf 56 = .ok (.istore_n 2, 1) := by decide +kernel
theorem dX1_wordsOf_57 : decode cX1_wordsOf 57 = .ok (.iinc 3 1, 3) := by decide +kernel
theorem dX1_wordsOf_60 : decode cX1_wordsOf 60 = .ok (.goto (-38), 3) := by decide +kernel
theorem dX1_wordsOf_63 : decode cX1_wordsOf 63 = .ok (.iload_n 2, 1) := by decide +kernel
theorem dX1_wordsOf_64 : decode cX1_wordsOf 64 = .ok (.ireturn, 1) := by decide +kernel
set_option maxRecDepth 20000 in
theorem ggX1_gap_X1_isGap : GoodIn wsX1_gap wsX1_isGap := goodIn_r _ [6, 7, 8, 9, 5, 10, 11, 12, 13, 14, 15, 16, 17, 18, 19, 20, 21, 22] (by decide +kernel) (by decide +kernel)
set_option maxRecDepth 20000 in
theorem gX1_gap_X1_isGap : GoodIn wsX1_gap (wsV RX1 111 RX1 yX1_isGap wsX1_isGap) := goodIn_app (goodIn_of _ (by decide +kernel)) ggX1_gap_X1_isGap
theorem dX1_gap_0 : decode cX1_gap 0 = .ok (.aload_n 0, 1) := by decide +kernel
theorem dX1_gap_1 : decode cX1_gap 1 = .ok (.aload_n 0, 1) := by decide +kernel
theorem dX1_gap_2 : decode cX1_gap 2 = .ok (.iload_n 1, 1) := by decide +kernel
theorem dX1_gap_3 : decode cX1_gap 3 = .ok (.invokevirtual 111, 3) := by decide +kernel
theorem dX1_gap_6 : decode cX1_gap 6 = .ok (.ifCond .eq 7, 3) := by decide +kernel
theorem dX1_gap_9 : decode cX1_gap 9 = .ok (.iconst 0, 1) := by decide +kernel
theorem dX1_gap_10 : decode cX1_gap 10 = .ok (.goto 4, 3) := by decide +kernel
theorem dX1_gap_13 : decode cX1_gap 13 = .ok (.iconst 1, 1) := by decide +kernel
theorem dX1_gap_14 : decode cX1_gap 14 = .ok (.putfield 24, 3) := by decide +kernel
theorem dX1_gap_17 : decode cX1_gap 17 = .ok (.aload_n 0, 1) := by decide +kernel
theorem dX1_gap_18 : decode cX1_gap 18 = .ok (.getfield 24, 3) := by decide +kernel
theorem dX1_gap_21 : decode cX1_gap 21 = .ok (.ifCond .ne 7, 3) := by decide +kernel
theorem dX1_gap_24 : decode cX1_gap 24 = .ok (.iconst 1, 1) := by decide +kernel
theorem dX1_gap_25 : decode cX1_gap 25 = .ok (.goto 4, 3) := by decide +kernel
theorem dX1_gap_28 : decode cX1_gap 28 = .ok (.iconst 0, 1) := by decide +kernel
theorem dX1_gap_29 : decode cX1_gap 29 = .ok (.ireturn, 1) := by decide +kernel
set_option maxRecDepth 20000 in
theorem ggX1_coughsIn_X1_gap : GoodIn wsX1_coughsIn wsX1_gap := goodIn_r _ [5, 6, 7, 8, 9, 4, 10, 11, 12, 13, 14, 15, 16, 17, 18, 19, 36, 37, 38, 39, 40, 41, 42] (by decide +kernel) (by decide +kernel)
set_option maxRecDepth 20000 in
theorem gX1_coughsIn_X1_gap : GoodIn wsX1_coughsIn (wsV RX1 126 RX1 yX1_gap wsX1_gap) := goodIn_app (goodIn_of _ (by decide +kernel)) ggX1_coughsIn_X1_gap
set_option maxRecDepth 20000 in
theorem ggX1_coughsIn_X1_coughsOf : GoodIn wsX1_coughsIn wsX1_coughsOf := goodIn_r _ [23, 24, 25, 26, 4, 27, 28, 29, 30, 31, 16, 32, 33, 34, 35, 36, 37, 38, 39, 40, 41, 42] (by decide +kernel) (by decide +kernel)
set_option maxRecDepth 20000 in
theorem gX1_coughsIn_X1_coughsOf : GoodIn wsX1_coughsIn (wsV RX1 60 RX1 yX1_coughsOf wsX1_coughsOf) := goodIn_app (goodIn_of _ (by decide +kernel)) ggX1_coughsIn_X1_coughsOf
theorem dX1_coughsIn_0 : decode cX1_coughsIn 0 = .ok (.aload_n 0, 1) := by decide +kernel
theorem dX1_coughsIn_1 : decode cX1_coughsIn 1 = .ok (.iload_n 1, 1) := by decide +kernel
theorem dX1_coughsIn_2 : decode cX1_coughsIn 2 = .ok (.invokevirtual 126, 3) := by decide +kernel
theorem dX1_coughsIn_5 : decode cX1_coughsIn 5 = .ok (.ifCond .eq 11, 3) := by decide +kernel
theorem dX1_coughsIn_8 : decode cX1_coughsIn 8 = .ok (.aload_n 0, 1) := by decide +kernel
theorem dX1_coughsIn_9 : decode cX1_coughsIn 9 = .ok (.iload_n 1, 1) := by decide +kernel
theorem dX1_coughsIn_10 : decode cX1_coughsIn 10 = .ok (.invokevirtual 60, 3) := by decide +kernel
theorem dX1_coughsIn_13 : decode cX1_coughsIn 13 = .ok (.goto 4, 3) := by decide +kernel
theorem dX1_coughsIn_16 : decode cX1_coughsIn 16 = .ok (.iconst 0, 1) := by decide +kernel
theorem dX1_coughsIn_17 : decode cX1_coughsIn 17 = .ok (.ireturn, 1) := by decide +kernel
set_option maxRecDepth 20000 in
theorem ggX1_strainOf_X1_gap : GoodIn wsX1_strainOf wsX1_gap := goodIn_r _ [5, 6, 7, 8, 9, 4, 10, 11, 12, 13, 14, 15, 16, 17, 18, 19, 50, 51, 52, 53, 54, 55, 56] (by decide +kernel) (by decide +kernel)
set_option maxRecDepth 20000 in
theorem gX1_strainOf_X1_gap : GoodIn wsX1_strainOf (wsV RX1 126 RX1 yX1_gap wsX1_gap) := goodIn_app (goodIn_of _ (by decide +kernel)) ggX1_strainOf_X1_gap
set_option maxRecDepth 20000 in
theorem ggX1_strainOf_X1_strain : GoodIn wsX1_strainOf wsX1_strain := goodIn_r _ [23, 16, 24, 25, 26, 4, 27, 28, 29, 30, 31, 32, 33, 34, 35, 36, 37, 38, 39, 40, 41, 42, 43, 44, 45, 46, 47, 48, 49, 50, 51, 52, 53, 54, 55, 56] (by decide +kernel) (by decide +kernel)
set_option maxRecDepth 20000 in
theorem gX1_strainOf_X1_strain : GoodIn wsX1_strainOf (wsV RX1 63 RX1 yX1_strain wsX1_strain) := goodIn_app (goodIn_of _ (by decide +kernel)) ggX1_strainOf_X1_strain
theorem dX1_strainOf_0 : decode cX1_strainOf 0 = .ok (.aload_n 0, 1) := by decide +kernel
theorem dX1_strainOf_1 : decode cX1_strainOf 1 = .ok (.iload_n 1, 1) := by decide +kernel
theorem dX1_strainOf_2 : decode cX1_strainOf 2 = .ok (.invokevirtual 126, 3) := by decide +kernel
theorem dX1_strainOf_5 : decode cX1_strainOf 5 = .ok (.ifCond .eq 11, 3) := by decide +kernel
theorem dX1_strainOf_8 : decode cX1_strainOf 8 = .ok (.aload_n 0, 1) := by decide +kernel
theorem dX1_strainOf_9 : decode cX1_strainOf 9 = .ok (.iload_n 1, 1) := by decide +kernel
theorem dX1_strainOf_10 : decode cX1_strainOf 10 = .ok (.invokevirtual 63, 3) := by decide +kernel
theorem dX1_strainOf_13 : decode cX1_strainOf 13 = .ok (.goto 4, 3) := by decide +kernel
theorem dX1_strainOf_16 : decode cX1_strainOf 16 = .ok (.iconst 0, 1) := by decide +kernel
theorem dX1_strainOf_17 : decode cX1_strainOf 17 = .ok (.ireturn, 1) := by decide +kernel
set_option maxRecDepth 20000 in
theorem ggX1_isTied_X1_gap : GoodIn wsX1_isTied wsX1_gap := goodIn_r _ [6, 7, 8, 9, 10, 5, 11, 12, 13, 14, 15, 16, 17, 18, 19, 20, 29, 30, 31, 32, 33, 34, 35] (by decide +kernel) (by decide +kernel)
set_option maxRecDepth 20000 in
theorem gX1_isTied_X1_gap : GoodIn wsX1_isTied (wsV RX1 126 RX1 yX1_gap wsX1_gap) := goodIn_app (goodIn_of _ (by decide +kernel)) ggX1_isTied_X1_gap
set_option maxRecDepth 20000 in
theorem ggX1_isTied_X1_from : GoodIn wsX1_isTied wsX1_from := goodIn_r _ [24, 25, 26, 27, 5, 28, 17, 29, 30, 31, 32, 33, 34, 35] (by decide +kernel) (by decide +kernel)
set_option maxRecDepth 20000 in
theorem gX1_isTied_X1_from : GoodIn wsX1_isTied (wsV RX1 54 RX1 yX1_from wsX1_from) := goodIn_app (goodIn_of _ (by decide +kernel)) ggX1_isTied_X1_from
theorem dX1_isTied_0 : decode cX1_isTied 0 = .ok (.aload_n 0, 1) := by decide +kernel
theorem dX1_isTied_1 : decode cX1_isTied 1 = .ok (.iload_n 1, 1) := by decide +kernel
theorem dX1_isTied_2 : decode cX1_isTied 2 = .ok (.invokevirtual 126, 3) := by decide +kernel
theorem dX1_isTied_5 : decode cX1_isTied 5 = .ok (.ifCond .eq 20, 3) := by decide +kernel
theorem dX1_isTied_8 : decode cX1_isTied 8 = .ok (.aload_n 0, 1) := by decide +kernel
theorem dX1_isTied_9 : decode cX1_isTied 9 = .ok (.getfield 20, 3) := by decide +kernel
theorem dX1_isTied_12 : decode cX1_isTied 12 = .ok (.aload_n 0, 1) := by decide +kernel
theorem dX1_isTied_13 : decode cX1_isTied 13 = .ok (.iload_n 1, 1) := by decide +kernel
theorem dX1_isTied_14 : decode cX1_isTied 14 = .ok (.invokevirtual 54, 3) := by decide +kernel
theorem dX1_isTied_17 : decode cX1_isTied 17 = .ok (.baload, 1) := by decide +kernel
theorem dX1_isTied_18 : decode cX1_isTied 18 = .ok (.ifCond .eq 7, 3) := by decide +kernel
theorem dX1_isTied_21 : decode cX1_isTied 21 = .ok (.iconst 1, 1) := by decide +kernel
theorem dX1_isTied_22 : decode cX1_isTied 22 = .ok (.goto 4, 3) := by decide +kernel
theorem dX1_isTied_25 : decode cX1_isTied 25 = .ok (.iconst 0, 1) := by decide +kernel
theorem dX1_isTied_26 : decode cX1_isTied 26 = .ok (.ireturn, 1) := by decide +kernel
set_option maxRecDepth 20000 in
theorem ggX1_isSmooth_X1_gap : GoodIn wsX1_isSmooth wsX1_gap := goodIn_r _ [5, 6, 7, 8, 9, 4, 10, 11, 12, 13, 14, 15, 16, 17, 18, 19, 55, 56, 57, 58, 59, 60, 61] (by decide +kernel) (by decide +kernel)
set_option maxRecDepth 20000 in
theorem gX1_isSmooth_X1_gap : GoodIn wsX1_isSmooth (wsV RX1 126 RX1 yX1_gap wsX1_gap) := goodIn_app (goodIn_of _ (by decide +kernel)) ggX1_isSmooth_X1_gap
set_option maxRecDepth 20000 in
theorem ggX1_isSmooth_X1_smooth : GoodIn wsX1_isSmooth wsX1_smooth := goodIn_r _ [23, 24, 25, 26, 27, 4, 28, 29, 30, 31, 32, 16, 33, 34, 35, 36, 37, 38, 39, 40, 41, 42, 43, 44, 45, 46, 47, 48, 49, 50, 51, 52, 53, 54, 55, 56, 57, 58, 59, 60, 61] (by decide +kernel) (by decide +kernel)
set_option maxRecDepth 20000 in
theorem gX1_isSmooth_X1_smooth : GoodIn wsX1_isSmooth (wsV RX1 77 RX1 yX1_smooth wsX1_smooth) := goodIn_app (goodIn_of _ (by decide +kernel)) ggX1_isSmooth_X1_smooth
theorem dX1_isSmooth_0 : decode cX1_isSmooth 0 = .ok (.aload_n 0, 1) := by decide +kernel
theorem dX1_isSmooth_1 : decode cX1_isSmooth 1 = .ok (.iload_n 1, 1) := by decide +kernel
theorem dX1_isSmooth_2 : decode cX1_isSmooth 2 = .ok (.invokevirtual 126, 3) := by decide +kernel
theorem dX1_isSmooth_5 : decode cX1_isSmooth 5 = .ok (.ifCond .eq 15, 3) := by decide +kernel
theorem dX1_isSmooth_8 : decode cX1_isSmooth 8 = .ok (.aload_n 0, 1) := by decide +kernel
theorem dX1_isSmooth_9 : decode cX1_isSmooth 9 = .ok (.iload_n 1, 1) := by decide +kernel
theorem dX1_isSmooth_10 : decode cX1_isSmooth 10 = .ok (.invokevirtual 77, 3) := by decide +kernel
theorem dX1_isSmooth_13 : decode cX1_isSmooth 13 = .ok (.ifCond .eq 7, 3) := by decide +kernel
theorem dX1_isSmooth_16 : decode cX1_isSmooth 16 = .ok (.iconst 1, 1) := by decide +kernel
theorem dX1_isSmooth_17 : decode cX1_isSmooth 17 = .ok (.goto 4, 3) := by decide +kernel
theorem dX1_isSmooth_20 : decode cX1_isSmooth 20 = .ok (.iconst 0, 1) := by decide +kernel
theorem dX1_isSmooth_21 : decode cX1_isSmooth 21 = .ok (.ireturn, 1) := by decide +kernel
set_option maxRecDepth 20000 in
theorem ggX1_isPolite_X1_gap : GoodIn wsX1_isPolite wsX1_gap := goodIn_r _ [5, 6, 7, 8, 9, 4, 10, 11, 12, 13, 14, 15, 16, 17, 18, 19, 67, 68, 69, 70, 71, 72, 73] (by decide +kernel) (by decide +kernel)
set_option maxRecDepth 20000 in
theorem gX1_isPolite_X1_gap : GoodIn wsX1_isPolite (wsV RX1 126 RX1 yX1_gap wsX1_gap) := goodIn_app (goodIn_of _ (by decide +kernel)) ggX1_isPolite_X1_gap
set_option maxRecDepth 20000 in
theorem ggX1_isPolite_X1_smooth : GoodIn wsX1_isPolite wsX1_smooth := goodIn_r _ [23, 24, 25, 26, 27, 4, 28, 29, 30, 31, 32, 16, 33, 34, 35, 36, 37, 38, 39, 40, 41, 42, 43, 44, 45, 46, 47, 48, 49, 50, 51, 52, 53, 54, 67, 68, 69, 70, 71, 72, 73] (by decide +kernel) (by decide +kernel)
set_option maxRecDepth 20000 in
theorem gX1_isPolite_X1_smooth : GoodIn wsX1_isPolite (wsV RX1 77 RX1 yX1_smooth wsX1_smooth) := goodIn_app (goodIn_of _ (by decide +kernel)) ggX1_isPolite_X1_smooth
set_option maxRecDepth 20000 in
theorem ggX1_isPolite_X1_broken : GoodIn wsX1_isPolite wsX1_broken := goodIn_r _ [58, 24, 25, 26, 27, 4, 28, 29, 30, 31, 32, 16, 33, 34, 35, 36, 37, 38, 39, 40, 41, 42, 43, 44, 45, 46, 47, 48, 49, 50, 51, 52, 53, 54, 59, 60, 61, 62, 63, 64, 65, 66, 67, 68, 69, 70, 71, 72, 73] (by decide +kernel) (by decide +kernel)
set_option maxRecDepth 20000 in
theorem gX1_isPolite_X1_broken : GoodIn wsX1_isPolite (wsV RX1 74 RX1 yX1_broken wsX1_broken) := goodIn_app (goodIn_of _ (by decide +kernel)) ggX1_isPolite_X1_broken
theorem dX1_isPolite_0 : decode cX1_isPolite 0 = .ok (.aload_n 0, 1) := by decide +kernel
theorem dX1_isPolite_1 : decode cX1_isPolite 1 = .ok (.iload_n 1, 1) := by decide +kernel
theorem dX1_isPolite_2 : decode cX1_isPolite 2 = .ok (.invokevirtual 126, 3) := by decide +kernel
theorem dX1_isPolite_5 : decode cX1_isPolite 5 = .ok (.ifCond .eq 23, 3) := by decide +kernel
theorem dX1_isPolite_8 : decode cX1_isPolite 8 = .ok (.aload_n 0, 1) := by decide +kernel
theorem dX1_isPolite_9 : decode cX1_isPolite 9 = .ok (.iload_n 1, 1) := by decide +kernel
theorem dX1_isPolite_10 : decode cX1_isPolite 10 = .ok (.invokevirtual 77, 3) := by decide +kernel
theorem dX1_isPolite_13 : decode cX1_isPolite 13 = .ok (.ifCond .ne 15, 3) := by decide +kernel
theorem dX1_isPolite_16 : decode cX1_isPolite 16 = .ok (.aload_n 0, 1) := by decide +kernel
theorem dX1_isPolite_17 : decode cX1_isPolite 17 = .ok (.iload_n 1, 1) := by decide +kernel
theorem dX1_isPolite_18 : decode cX1_isPolite 18 = .ok (.invokevirtual 74, 3) := by decide +kernel
theorem dX1_isPolite_21 : decode cX1_isPolite 21 = .ok (.ifCond .ne 7, 3) := by decide +kernel
theorem dX1_isPolite_24 : decode cX1_isPolite 24 = .ok (.iconst 1, 1) := by decide +kernel
theorem dX1_isPolite_25 : decode cX1_isPolite 25 = .ok (.goto 4, 3) := by decide +kernel
theorem dX1_isPolite_28 : decode cX1_isPolite 28 = .ok (.iconst 0, 1) := by decide +kernel
theorem dX1_isPolite_29 : decode cX1_isPolite 29 = .ok (.ireturn, 1) := by decide +kernel
set_option maxRecDepth 20000 in
theorem ggX1_isBroken_X1_gap : GoodIn wsX1_isBroken wsX1_gap := goodIn_r _ [5, 6, 7, 8, 9, 4, 10, 11, 12, 13, 14, 15, 16, 17, 18, 19, 63, 64, 65, 66, 67, 68, 69] (by decide +kernel) (by decide +kernel)
set_option maxRecDepth 20000 in
theorem gX1_isBroken_X1_gap : GoodIn wsX1_isBroken (wsV RX1 126 RX1 yX1_gap wsX1_gap) := goodIn_app (goodIn_of _ (by decide +kernel)) ggX1_isBroken_X1_gap
set_option maxRecDepth 20000 in
theorem ggX1_isBroken_X1_broken : GoodIn wsX1_isBroken wsX1_broken := goodIn_r _ [23, 24, 25, 26, 27, 4, 28, 29, 30, 31, 32, 16, 33, 34, 35, 36, 37, 38, 39, 40, 41, 42, 43, 44, 45, 46, 47, 48, 49, 50, 51, 52, 53, 54, 55, 56, 57, 58, 59, 60, 61, 62, 63, 64, 65, 66, 67, 68, 69] (by decide +kernel) (by decide +kernel)
set_option maxRecDepth 20000 in
theorem gX1_isBroken_X1_broken : GoodIn wsX1_isBroken (wsV RX1 74 RX1 yX1_broken wsX1_broken) := goodIn_app (goodIn_of _ (by decide +kernel)) ggX1_isBroken_X1_broken
theorem dX1_isBroken_0 : decode cX1_isBroken 0 = .ok (.aload_n 0, 1) := by decide +kernel
theorem dX1_isBroken_1 : decode cX1_isBroken 1 = .ok (.iload_n 1, 1) := by decide +kernel
theorem dX1_isBroken_2 : decode cX1_isBroken 2 = .ok (.invokevirtual 126, 3) := by decide +kernel
theorem dX1_isBroken_5 : decode cX1_isBroken 5 = .ok (.ifCond .eq 15, 3) := by decide +kernel
theorem dX1_isBroken_8 : decode cX1_isBroken 8 = .ok (.aload_n 0, 1) := by decide +kernel
theorem dX1_isBroken_9 : decode cX1_isBroken 9 = .ok (.iload_n 1, 1) := by decide +kernel
theorem dX1_isBroken_10 : decode cX1_isBroken 10 = .ok (.invokevirtual 74, 3) := by decide +kernel
theorem dX1_isBroken_13 : decode cX1_isBroken 13 = .ok (.ifCond .eq 7, 3) := by decide +kernel
theorem dX1_isBroken_16 : decode cX1_isBroken 16 = .ok (.iconst 1, 1) := by decide +kernel
theorem dX1_isBroken_17 : decode cX1_isBroken 17 = .ok (.goto 4, 3) := by decide +kernel
theorem dX1_isBroken_20 : decode cX1_isBroken 20 = .ok (.iconst 0, 1) := by decide +kernel
theorem dX1_isBroken_21 : decode cX1_isBroken 21 = .ok (.ireturn, 1) := by decide +kernel
set_option maxRecDepth 20000 in
theorem ggX1_brokenGaps_X1_allBroken : GoodIn wsX1_brokenGaps wsX1_allBroken := goodIn_r _ [5, 6, 7, 8, 4, 9, 10, 11, 12, 13, 14, 15, 16, 17, 18, 19, 20, 21, 22, 23, 24, 25, 26, 27, 28, 29, 30, 31, 32, 33, 34, 35, 36, 37, 38, 39, 40, 41, 42, 43, 44, 45, 46, 47, 48, 49, 50, 51, 52, 53, 54, 60, 61, 62, 63, 64, 65, 66] (by decide +kernel) (by decide +kernel)
set_option maxRecDepth 20000 in
theorem gX1_brokenGaps_X1_allBroken : GoodIn wsX1_brokenGaps (wsV RX1 108 RX1 yX1_allBroken wsX1_allBroken) := goodIn_app (goodIn_of _ (by decide +kernel)) ggX1_brokenGaps_X1_allBroken
set_option maxRecDepth 20000 in
theorem ggX1_brokenGaps_X1_told : GoodIn wsX1_brokenGaps wsX1_told := goodIn_r _ [58, 59, 60, 61, 62, 63, 64, 65, 66] (by decide +kernel) (by decide +kernel)
set_option maxRecDepth 20000 in
theorem gX1_brokenGaps_X1_told : GoodIn wsX1_brokenGaps (wsV RX1 120 RX1 yX1_told wsX1_told) := goodIn_app (goodIn_of _ (by decide +kernel)) ggX1_brokenGaps_X1_told
theorem dX1_brokenGaps_0 : decode cX1_brokenGaps 0 = .ok (.aload_n 0, 1) := by decide +kernel
theorem dX1_brokenGaps_1 : decode cX1_brokenGaps 1 = .ok (.aload_n 0, 1) := by decide +kernel
theorem dX1_brokenGaps_2 : decode cX1_brokenGaps 2 = .ok (.invokevirtual 108, 3) := by decide +kernel
theorem dX1_brokenGaps_5 : decode cX1_brokenGaps 5 = .ok (.invokevirtual 120, 3) := by decide +kernel
theorem dX1_brokenGaps_8 : decode cX1_brokenGaps 8 = .ok (.ireturn, 1) := by decide +kernel
set_option maxRecDepth 20000 in
theorem ggX1_politeGaps_X1_allPolite : GoodIn wsX1_politeGaps wsX1_allPolite := goodIn_r _ [5, 6, 7, 8, 4, 9, 10, 11, 12, 13, 14, 15, 16, 17, 18, 19, 20, 21, 22, 23, 24, 25, 26, 27, 28, 29, 30, 31, 32, 33, 34, 35, 36, 37, 38, 39, 40, 41, 42, 43, 44, 45, 46, 47, 48, 49, 50, 51, 52, 53, 54, 55, 56, 57, 58, 64, 65, 66, 67, 68, 69, 70] (by decide +kernel) (by decide +kernel)
set_option maxRecDepth 20000 in
theorem gX1_politeGaps_X1_allPolite : GoodIn wsX1_politeGaps (wsV RX1 129 RX1 yX1_allPolite wsX1_allPolite) := goodIn_app (goodIn_of _ (by decide +kernel)) ggX1_politeGaps_X1_allPolite
set_option maxRecDepth 20000 in
theorem ggX1_politeGaps_X1_told : GoodIn wsX1_politeGaps wsX1_told := goodIn_r _ [62, 63, 64, 65, 66, 67, 68, 69, 70] (by decide +kernel) (by decide +kernel)
set_option maxRecDepth 20000 in
theorem gX1_politeGaps_X1_told : GoodIn wsX1_politeGaps (wsV RX1 120 RX1 yX1_told wsX1_told) := goodIn_app (goodIn_of _ (by decide +kernel)) ggX1_politeGaps_X1_told
theorem dX1_politeGaps_0 : decode cX1_politeGaps 0 = .ok (.aload_n 0, 1) := by decide +kernel
theorem dX1_politeGaps_1 : decode cX1_politeGaps 1 = .ok (.aload_n 0, 1) := by decide +kernel
theorem dX1_politeGaps_2 : decode cX1_politeGaps 2 = .ok (.invokevirtual 129, 3) := by decide +kernel
theorem dX1_politeGaps_5 : decode cX1_politeGaps 5 = .ok (.invokevirtual 120, 3) := by decide +kernel
theorem dX1_politeGaps_8 : decode cX1_politeGaps 8 = .ok (.ireturn, 1) := by decide +kernel
set_option maxRecDepth 20000 in
theorem ggX1_threads_X1_threadsNow : GoodIn wsX1_threads wsX1_threadsNow := goodIn_r _ [5, 6, 7, 8, 4, 9, 10, 11, 12, 13, 14, 15, 16, 17, 18, 19, 20, 21, 22, 23, 24, 25, 26, 27, 28, 29, 30, 31, 32, 33, 34, 35, 36, 37, 38, 39, 40, 41, 42, 43, 44, 45, 46, 47, 48, 49, 50, 51, 52, 53, 54, 55, 56, 57, 58, 64, 65, 66, 67, 68, 69, 70] (by decide +kernel) (by decide +kernel)
set_option maxRecDepth 20000 in
theorem gX1_threads_X1_threadsNow : GoodIn wsX1_threads (wsV RX1 114 RX1 yX1_threadsNow wsX1_threadsNow) := goodIn_app (goodIn_of _ (by decide +kernel)) ggX1_threads_X1_threadsNow
set_option maxRecDepth 20000 in
theorem ggX1_threads_X1_told : GoodIn wsX1_threads wsX1_told := goodIn_r _ [62, 63, 64, 65, 66, 67, 68, 69, 70] (by decide +kernel) (by decide +kernel)
set_option maxRecDepth 20000 in
theorem gX1_threads_X1_told : GoodIn wsX1_threads (wsV RX1 120 RX1 yX1_told wsX1_told) := goodIn_app (goodIn_of _ (by decide +kernel)) ggX1_threads_X1_told
theorem dX1_threads_0 : decode cX1_threads 0 = .ok (.aload_n 0, 1) := by decide +kernel
theorem dX1_threads_1 : decode cX1_threads 1 = .ok (.aload_n 0, 1) := by decide +kernel
theorem dX1_threads_2 : decode cX1_threads 2 = .ok (.invokevirtual 114, 3) := by decide +kernel
theorem dX1_threads_5 : decode cX1_threads 5 = .ok (.invokevirtual 120, 3) := by decide +kernel
theorem dX1_threads_8 : decode cX1_threads 8 = .ok (.ireturn, 1) := by decide +kernel
set_option maxRecDepth 20000 in
theorem ggX1_thread_X1_broken : GoodIn wsX1_thread wsX1_broken := goodIn_r _ [5, 6, 7, 8, 9, 4, 10, 11, 12, 13, 14, 15, 16, 17, 18, 19, 20, 21, 22, 23, 24, 25, 26, 27, 28, 29, 30, 31, 32, 33, 34, 35, 36, 37, 38, 39, 40, 41, 42, 43, 44, 45, 46, 47, 48, 49, 50, 51, 52] (by decide +kernel) (by decide +kernel)
set_option maxRecDepth 20000 in
theorem gX1_thread_X1_broken : GoodIn wsX1_thread (wsV RX1 74 RX1 yX1_broken wsX1_broken) := goodIn_app (goodIn_of _ (by decide +kernel)) ggX1_thread_X1_broken
theorem dX1_thread_0 : decode cX1_thread 0 = .ok (.iconst 0, 1) := by decide +kernel
theorem dX1_thread_1 : decode cX1_thread 1 = .ok (.istore_n 2, 1) := by decide +kernel
theorem dX1_thread_2 : decode cX1_thread 2 = .ok (.iconst 0, 1) := by decide +kernel
theorem dX1_thread_3 : decode cX1_thread 3 = .ok (.istore_n 3, 1) := by decide +kernel
theorem dX1_thread_4 : decode cX1_thread 4 = .ok (.iload_n 3, 1) := by decide +kernel
theorem dX1_thread_5 : decode cX1_thread 5 = .ok (.iload_n 1, 1) := by decide +kernel
theorem dX1_thread_6 : decode cX1_thread 6 = .ok (.if_icmp .ge 25, 3) := by decide +kernel
theorem dX1_thread_9 : decode cX1_thread 9 = .ok (.iload_n 2, 1) := by decide +kernel
theorem dX1_thread_10 : decode cX1_thread 10 = .ok (.aload_n 0, 1) := by decide +kernel
theorem dX1_thread_11 : decode cX1_thread 11 = .ok (.iload_n 3, 1) := by decide +kernel
theorem dX1_thread_12 : decode cX1_thread 12 = .ok (.invokevirtual 74, 3) := by decide +kernel
theorem dX1_thread_15 : decode cX1_thread 15 = .ok (.ifCond .eq 7, 3) := by decide +kernel
theorem dX1_thread_18 : decode cX1_thread 18 = .ok (.iconst 1, 1) := by decide +kernel
theorem dX1_thread_19 : decode cX1_thread 19 = .ok (.goto 4, 3) := by decide +kernel
theorem dX1_thread_22 : decode cX1_thread 22 = .ok (.iconst 0, 1) := by decide +kernel
theorem dX1_thread_23 : decode cX1_thread 23 = .ok (.iadd, 1) := by decide +kernel
theorem dX1_thread_24 : decode cX1_thread 24 = .ok (.istore_n 2, 1) := by decide +kernel
theorem dX1_thread_25 : decode cX1_thread 25 = .ok (.iinc 3 1, 3) := by decide +kernel
theorem dX1_thread_28 : decode cX1_thread 28 = .ok (.goto (-24), 3) := by decide +kernel
theorem dX1_thread_31 : decode cX1_thread 31 = .ok (.iload_n 2, 1) := by decide +kernel
theorem dX1_thread_32 : decode cX1_thread 32 = .ok (.ireturn, 1) := by decide +kernel
set_option maxRecDepth 20000 in
theorem ggX1_isThread_X1_threadsNow : GoodIn wsX1_isThread wsX1_threadsNow := goodIn_r _ [5, 6, 7, 8, 4, 9, 10, 11, 12, 13, 14, 15, 16, 17, 18, 19, 20, 21, 22, 23, 24, 25, 26, 27, 28, 29, 30, 31, 32, 33, 34, 35, 36, 37, 38, 39, 40, 41, 42, 43, 44, 45, 46, 47, 48, 49, 50, 51, 52, 53, 54, 55, 56, 57, 58, 62, 63, 64, 65, 66, 67, 68] (by decide +kernel) (by decide +kernel)
set_option maxRecDepth 20000 in
theorem gX1_isThread_X1_threadsNow : GoodIn wsX1_isThread (wsV RX1 114 RX1 yX1_threadsNow wsX1_threadsNow) := goodIn_app (goodIn_of _ (by decide +kernel)) ggX1_isThread_X1_threadsNow
set_option maxRecDepth 20000 in
theorem ggX1_isThread_X1_isIn : GoodIn wsX1_isThread wsX1_isIn := goodIn_r _ [61] (by decide +kernel) (by decide +kernel)
set_option maxRecDepth 20000 in
theorem gX1_isThread_X1_isIn : GoodIn wsX1_isThread (va_wsS RX1 27 yX1_isIn wsX1_isIn) := goodIn_app (goodIn_of _ (by decide +kernel)) ggX1_isThread_X1_isIn
theorem dX1_isThread_0 : decode cX1_isThread 0 = .ok (.iload_n 1, 1) := by decide +kernel
theorem dX1_isThread_1 : decode cX1_isThread 1 = .ok (.iconst 0, 1) := by decide +kernel
theorem dX1_isThread_2 : decode cX1_isThread 2 = .ok (.aload_n 0, 1) := by decide +kernel
theorem dX1_isThread_3 : decode cX1_isThread 3 = .ok (.invokevirtual 114, 3) := by decide +kernel
theorem dX1_isThread_6 : decode cX1_isThread 6 = .ok (.iconst 1, 1) := by decide +kernel
theorem dX1_isThread_7 : decode cX1_isThread 7 = .ok (.isub, 1) := by decide +kernel
theorem dX1_isThread_8 : decode cX1_isThread 8 = .ok (.invokestatic 27, 3) := by decide +kernel
theorem dX1_isThread_11 : decode cX1_isThread 11 = .ok (.ireturn, 1) := by decide +kernel
set_option maxRecDepth 20000 in
theorem ggX1_length_X1_many : GoodIn wsX1_length wsX1_many := goodIn_r _ [5, 6, 7, 55, 56, 57, 58, 59, 60, 61] (by decide +kernel) (by decide +kernel)
set_option maxRecDepth 20000 in
theorem gX1_length_X1_many : GoodIn wsX1_length (wsV RX1 34 RX1 yX1_many wsX1_many) := goodIn_app (goodIn_of _ (by decide +kernel)) ggX1_length_X1_many
set_option maxRecDepth 20000 in
theorem ggX1_length_X1_thread : GoodIn wsX1_length wsX1_thread := goodIn_r _ [11, 12, 13, 14, 4, 15, 16, 17, 18, 19, 20, 21, 22, 23, 24, 7, 25, 26, 27, 28, 29, 30, 31, 32, 33, 34, 35, 36, 37, 38, 39, 40, 41, 42, 43, 44, 45, 46, 47, 48, 49, 50, 51, 52, 53, 54, 55, 56, 57, 58, 59, 60, 61] (by decide +kernel) (by decide +kernel)
set_option maxRecDepth 20000 in
theorem gX1_length_X1_thread : GoodIn wsX1_length (wsV RX1 132 RX1 yX1_thread wsX1_thread) := goodIn_app (goodIn_of _ (by decide +kernel)) ggX1_length_X1_thread
theorem dX1_length_0 : decode cX1_length 0 = .ok (.iconst 0, 1) := by decide +kernel
theorem dX1_length_1 : decode cX1_length 1 = .ok (.istore_n 2, 1) := by decide +kernel
theorem dX1_length_2 : decode cX1_length 2 = .ok (.iconst 0, 1) := by decide +kernel
theorem dX1_length_3 : decode cX1_length 3 = .ok (.istore_n 3, 1) := by decide +kernel
theorem dX1_length_4 : decode cX1_length 4 = .ok (.iload_n 3, 1) := by decide +kernel
theorem dX1_length_5 : decode cX1_length 5 = .ok (.aload_n 0, 1) := by decide +kernel
theorem dX1_length_6 : decode cX1_length 6 = .ok (.invokevirtual 34, 3) := by decide +kernel
theorem dX1_length_9 : decode cX1_length 9 = .ok (.if_icmp .ge 26, 3) := by decide +kernel
theorem dX1_length_12 : decode cX1_length 12 = .ok (.iload_n 2, 1) := by decide +kernel
theorem dX1_length_13 : decode cX1_length 13 = .ok (.aload_n 0, 1) := by decide +kernel
theorem dX1_length_14 : decode cX1_length 14 = .ok (.iload_n 3, 1) := by decide +kernel
theorem dX1_length_15 : decode cX1_length 15 = .ok (.invokevirtual 132, 3) := by decide +kernel
theorem dX1_length_18 : decode cX1_length 18 = .ok (.iload_n 1, 1) := by decide +kernel
theorem dX1_length_19 : decode cX1_length 19 = .ok (.if_icmp .ne 7, 3) := by decide +kernel
theorem dX1_length_22 : decode cX1_length 22 = .ok (.iconst 1, 1) := by decide +kernel
theorem dX1_length_23 : decode cX1_length 23 = .ok (.goto 4, 3) := by decide +kernel
theorem dX1_length_26 : decode cX1_length 26 = .ok (.iconst 0, 1) := by decide +kernel
theorem dX1_length_27 : decode cX1_length 27 = .ok (.iadd, 1) := by decide +kernel
theorem dX1_length_28 : decode cX1_length 28 = .ok (.istore_n 2, 1) := by decide +kernel
theorem dX1_length_29 : decode cX1_length 29 = .ok (.iinc 3 1, 3) := by decide +kernel
theorem dX1_length_32 : decode cX1_length 32 = .ok (.goto (-28), 3) := by decide +kernel
theorem dX1_length_35 : decode cX1_length 35 = .ok (.iload_n 2, 1) := by decide +kernel
theorem dX1_length_36 : decode cX1_length 36 = .ok (.ireturn, 1) := by decide +kernel
set_option maxRecDepth 20000 in
theorem ggX1_threadOf_X1_isWord : GoodIn wsX1_threadOf wsX1_isWord := goodIn_r _ [6, 7, 8, 9, 5, 10, 11, 12, 13, 14, 15, 67, 68, 69, 70, 71, 72, 73] (by decide +kernel) (by decide +kernel)
set_option maxRecDepth 20000 in
theorem gX1_threadOf_X1_isWord : GoodIn wsX1_threadOf (wsV RX1 123 RX1 yX1_isWord wsX1_isWord) := goodIn_app (goodIn_of _ (by decide +kernel)) ggX1_threadOf_X1_isWord
set_option maxRecDepth 20000 in
theorem ggX1_threadOf_X1_thread : GoodIn wsX1_threadOf wsX1_thread := goodIn_r _ [19, 20, 21, 22, 5, 23, 24, 25, 26, 27, 28, 29, 30, 31, 32, 12, 33, 34, 35, 36, 37, 38, 39, 40, 41, 42, 43, 44, 45, 46, 47, 48, 49, 50, 51, 52, 53, 54, 55, 56, 57, 58, 59, 60, 61, 62, 67, 68, 69, 70, 71, 72, 73] (by decide +kernel) (by decide +kernel)
set_option maxRecDepth 20000 in
theorem gX1_threadOf_X1_thread : GoodIn wsX1_threadOf (wsV RX1 132 RX1 yX1_thread wsX1_thread) := goodIn_app (goodIn_of _ (by decide +kernel)) ggX1_threadOf_X1_thread
set_option maxRecDepth 20000 in
theorem ggX1_threadOf_X1_fail : GoodIn wsX1_threadOf wsX1_fail := goodIn_r _ [66, 1, 67, 68, 69, 70, 71, 72, 73] (by decide +kernel) (by decide +kernel)
set_option maxRecDepth 20000 in
theorem gX1_threadOf_X1_fail : GoodIn wsX1_threadOf (wsV RX1 86 RX1 yX1_fail wsX1_fail) := goodIn_app (goodIn_of _ (by decide +kernel)) ggX1_threadOf_X1_fail
theorem dX1_threadOf_0 : decode cX1_threadOf 0 = .ok (.aload_n 0, 1) := by decide +kernel
theorem dX1_threadOf_1 : decode cX1_threadOf 1 = .ok (.iconst 0, 1) := by decide +kernel
theorem dX1_threadOf_2 : decode cX1_threadOf 2 = .ok (.putfield 24, 3) := by decide +kernel
theorem dX1_threadOf_5 : decode cX1_threadOf 5 = .ok (.aload_n 0, 1) := by decide +kernel
theorem dX1_threadOf_6 : decode cX1_threadOf 6 = .ok (.iload_n 1, 1) := by decide +kernel
theorem dX1_threadOf_7 : decode cX1_threadOf 7 = .ok (.invokevirtual 123, 3) := by decide +kernel
theorem dX1_threadOf_10 : decode cX1_threadOf 10 = .ok (.ifCond .eq 11, 3) := by decide +kernel
theorem dX1_threadOf_13 : decode cX1_threadOf 13 = .ok (.aload_n 0, 1) := by decide +kernel
theorem dX1_threadOf_14 : decode cX1_threadOf 14 = .ok (.iload_n 1, 1) := by decide +kernel
theorem dX1_threadOf_15 : decode cX1_threadOf 15 = .ok (.invokevirtual 132, 3) := by decide +kernel
theorem dX1_threadOf_18 : decode cX1_threadOf 18 = .ok (.goto 8, 3) := by decide +kernel
theorem dX1_threadOf_21 : decode cX1_threadOf 21 = .ok (.aload_n 0, 1) := by decide +kernel
theorem dX1_threadOf_22 : decode cX1_threadOf 22 = .ok (.iconst 1, 1) := by decide +kernel
theorem dX1_threadOf_23 : decode cX1_threadOf 23 = .ok (.invokevirtual 86, 3) := by decide +kernel
theorem dX1_threadOf_26 : decode cX1_threadOf 26 = .ok (.ireturn, 1) := by decide +kernel
set_option maxRecDepth 20000 in
theorem ggX1_lengthOf_X1_isThread : GoodIn wsX1_lengthOf wsX1_isThread := goodIn_r _ [6, 7, 8, 9, 5, 10, 11, 12, 13, 14, 15, 16, 17, 18, 19, 20, 21, 22, 23, 24, 25, 26, 27, 28, 29, 30, 31, 32, 33, 34, 35, 36, 37, 38, 39, 40, 41, 42, 43, 44, 45, 46, 47, 48, 49, 50, 51, 52, 53, 54, 55, 56, 57, 58, 59, 60, 61, 62, 63, 64, 65, 66, 79, 80, 81, 82, 83, 84, 85] (by decide +kernel) (by decide +kernel)
set_option maxRecDepth 20000 in
theorem gX1_lengthOf_X1_isThread : GoodIn wsX1_lengthOf (wsV RX1 135 RX1 yX1_isThread wsX1_isThread) := goodIn_app (goodIn_of _ (by decide +kernel)) ggX1_lengthOf_X1_isThread
set_option maxRecDepth 20000 in
theorem ggX1_lengthOf_X1_length : GoodIn wsX1_lengthOf wsX1_length := goodIn_r _ [70, 11, 12, 13, 5, 14, 15, 16, 71, 72, 73, 74, 21, 22, 23, 24, 25, 26, 27, 28, 29, 30, 31, 32, 33, 34, 35, 36, 37, 38, 39, 40, 41, 42, 43, 44, 45, 46, 47, 48, 49, 50, 51, 52, 53, 54, 55, 56, 57, 58, 59, 60, 61, 62, 63, 79, 80, 81, 82, 83, 84, 85] (by decide +kernel) (by decide +kernel)
set_option maxRecDepth 20000 in
theorem gX1_lengthOf_X1_length : GoodIn wsX1_lengthOf (wsV RX1 138 RX1 yX1_length wsX1_length) := goodIn_app (goodIn_of _ (by decide +kernel)) ggX1_lengthOf_X1_length
set_option maxRecDepth 20000 in
theorem ggX1_lengthOf_X1_fail : GoodIn wsX1_lengthOf wsX1_fail := goodIn_r _ [78, 1, 79, 80, 81, 82, 83, 84, 85] (by decide +kernel) (by decide +kernel)
set_option maxRecDepth 20000 in
theorem gX1_lengthOf_X1_fail : GoodIn wsX1_lengthOf (wsV RX1 86 RX1 yX1_fail wsX1_fail) := goodIn_app (goodIn_of _ (by decide +kernel)) ggX1_lengthOf_X1_fail
theorem dX1_lengthOf_0 : decode cX1_lengthOf 0 = .ok (.aload_n 0, 1) := by decide +kernel
theorem dX1_lengthOf_1 : decode cX1_lengthOf 1 = .ok (.iconst 0, 1) := by decide +kernel
theorem dX1_lengthOf_2 : decode cX1_lengthOf 2 = .ok (.putfield 24, 3) := by decide +kernel
theorem dX1_lengthOf_5 : decode cX1_lengthOf 5 = .ok (.aload_n 0, 1) := by decide +kernel
theorem dX1_lengthOf_6 : decode cX1_lengthOf 6 = .ok (.iload_n 1, 1) := by decide +kernel
theorem dX1_lengthOf_7 : decode cX1_lengthOf 7 = .ok (.invokevirtual 135, 3) := by decide +kernel
theorem dX1_lengthOf_10 : decode cX1_lengthOf 10 = .ok (.ifCond .eq 11, 3) := by decide +kernel
theorem dX1_lengthOf_13 : decode cX1_lengthOf 13 = .ok (.aload_n 0, 1) := by decide +kernel
theorem dX1_lengthOf_14 : decode cX1_lengthOf 14 = .ok (.iload_n 1, 1) := by decide +kernel
theorem dX1_lengthOf_15 : decode cX1_lengthOf 15 = .ok (.invokevirtual 138, 3) := by decide +kernel
theorem dX1_lengthOf_18 : decode cX1_lengthOf 18 = .ok (.goto 8, 3) := by decide +kernel
theorem dX1_lengthOf_21 : decode cX1_lengthOf 21 = .ok (.aload_n 0, 1) := by decide +kernel
theorem dX1_lengthOf_22 : decode cX1_lengthOf 22 = .ok (.iconst 1, 1) := by decide +kernel
theorem dX1_lengthOf_23 : decode cX1_lengthOf 23 = .ok (.invokevirtual 86, 3) := by decide +kernel
theorem dX1_lengthOf_26 : decode cX1_lengthOf 26 = .ok (.ireturn, 1) := by decide +kernel
set_option maxRecDepth 20000 in
theorem ggX1_longest_X1_threadsNow : GoodIn wsX1_longest wsX1_threadsNow := goodIn_r _ [5, 6, 7, 8, 4, 9, 10, 11, 12, 13, 14, 15, 16, 17, 18, 19, 20, 21, 22, 23, 24, 25, 26, 27, 28, 29, 30, 31, 32, 33, 34, 35, 36, 37, 38, 39, 40, 41, 42, 43, 44, 45, 46, 47, 48, 49, 50, 51, 52, 53, 54, 55, 56, 57, 58, 67, 68, 69, 70, 71, 72, 73] (by decide +kernel) (by decide +kernel)
set_option maxRecDepth 20000 in
theorem gX1_longest_X1_threadsNow : GoodIn wsX1_longest (wsV RX1 114 RX1 yX1_threadsNow wsX1_threadsNow) := goodIn_app (goodIn_of _ (by decide +kernel)) ggX1_longest_X1_threadsNow
set_option maxRecDepth 20000 in
theorem ggX1_longest_X1_length : GoodIn wsX1_longest wsX1_length := goodIn_r _ [62, 6, 7, 8, 4, 9, 10, 11, 63, 64, 65, 66, 16, 17, 18, 19, 20, 21, 22, 23, 24, 25, 26, 27, 28, 29, 30, 31, 32, 33, 34, 35, 36, 37, 38, 39, 40, 41, 42, 43, 44, 45, 46, 47, 48, 49, 50, 51, 52, 53, 54, 55, 56, 57, 58, 67, 68, 69, 70, 71, 72, 73] (by decide +kernel) (by decide +kernel)
set_option maxRecDepth 20000 in
theorem gX1_longest_X1_length : GoodIn wsX1_longest (wsV RX1 138 RX1 yX1_length wsX1_length) := goodIn_app (goodIn_of _ (by decide +kernel)) ggX1_longest_X1_length
theorem dX1_longest_0 : decode cX1_longest 0 = .ok (.iconst (-1), 1) := by decide +kernel
theorem dX1_longest_1 : decode cX1_longest 1 = .ok (.istore_n 1, 1) := by decide +kernel
theorem dX1_longest_2 : decode cX1_longest 2 = .ok (.iconst 0, 1) := by decide +kernel
theorem dX1_longest_3 : decode cX1_longest 3 = .ok (.istore_n 2, 1) := by decide +kernel
theorem dX1_longest_4 : decode cX1_longest 4 = .ok (.iload_n 2, 1) := by decide +kernel
theorem dX1_longest_5 : decode cX1_longest 5 = .ok (.aload_n 0, 1) := by decide +kernel
theorem dX1_longest_6 : decode cX1_longest 6 = .ok (.invokevirtual 114, 3) := by decide +kernel
theorem dX1_longest_9 : decode cX1_longest 9 = .ok (.if_icmp .ge 29, 3) := by decide +kernel
theorem dX1_longest_12 : decode cX1_longest 12 = .ok (.iload_n 1, 1) := by decide +kernel
theorem dX1_longest_13 : decode cX1_longest 13 = .ok (.iconst (-1), 1) := by decide +kernel
theorem dX1_longest_14 : decode cX1_longest 14 = .ok (.if_icmp .eq 16, 3) := by decide +kernel
theorem dX1_longest_17 : decode cX1_longest 17 = .ok (.aload_n 0, 1) := by decide +kernel
theorem dX1_longest_18 : decode cX1_longest 18 = .ok (.iload_n 2, 1) := by decide +kernel
theorem dX1_longest_19 : decode cX1_longest 19 = .ok (.invokevirtual 138, 3) := by decide +kernel
theorem dX1_longest_22 : decode cX1_longest 22 = .ok (.aload_n 0, 1) := by decide +kernel
theorem dX1_longest_23 : decode cX1_longest 23 = .ok (.iload_n 1, 1) := by decide +kernel
theorem dX1_longest_24 : decode cX1_longest 24 = .ok (.invokevirtual 138, 3) := by decide +kernel
theorem dX1_longest_27 : decode cX1_longest 27 = .ok (.if_icmp .le 5, 3) := by decide +kernel
theorem dX1_longest_30 : decode cX1_longest 30 = .ok (.iload_n 2, 1) := by decide +kernel
theorem dX1_longest_31 : decode cX1_longest 31 = .ok (.istore_n 1, 1) := by decide +kernel
theorem dX1_longest_32 : decode cX1_longest 32 = .ok (.iinc 2 1, 3) := by decide +kernel
theorem dX1_longest_35 : decode cX1_longest 35 = .ok (.goto (-31), 3) := by decide +kernel
theorem dX1_longest_38 : decode cX1_longest 38 = .ok (.iload_n 1, 1) := by decide +kernel
theorem dX1_longest_39 : decode cX1_longest 39 = .ok (.ireturn, 1) := by decide +kernel
set_option maxRecDepth 20000 in
theorem ggX1_longestThread_X1_longest : GoodIn wsX1_longestThread wsX1_longest := goodIn_r _ [5, 6, 7, 8, 4, 9, 10, 11, 12, 13, 14, 15, 16, 17, 18, 19, 20, 21, 22, 23, 24, 25, 26, 27, 28, 29, 30, 31, 32, 33, 34, 35, 36, 37, 38, 39, 40, 41, 42, 43, 44, 45, 46, 47, 48, 49, 50, 51, 52, 53, 54, 55, 56, 57, 58, 59, 60, 61, 62, 63, 64, 65, 66, 67, 68, 69, 70, 76, 77, 78, 79, 80, 81, 82] (by decide +kernel) (by decide +kernel)
set_option maxRecDepth 20000 in
theorem gX1_longestThread_X1_longest : GoodIn wsX1_longestThread (wsV RX1 141 RX1 yX1_longest wsX1_longest) := goodIn_app (goodIn_of _ (by decide +kernel)) ggX1_longestThread_X1_longest
set_option maxRecDepth 20000 in
theorem ggX1_longestThread_X1_told : GoodIn wsX1_longestThread wsX1_told := goodIn_r _ [74, 75, 76, 77, 78, 79, 80, 81, 82] (by decide +kernel) (by decide +kernel)
set_option maxRecDepth 20000 in
theorem gX1_longestThread_X1_told : GoodIn wsX1_longestThread (wsV RX1 120 RX1 yX1_told wsX1_told) := goodIn_app (goodIn_of _ (by decide +kernel)) ggX1_longestThread_X1_told
theorem dX1_longestThread_0 : decode cX1_longestThread 0 = .ok (.aload_n 0, 1) := by decide +kernel
theorem dX1_longestThread_1 : decode cX1_longestThread 1 = .ok (.aload_n 0, 1) := by decide +kernel
theorem dX1_longestThread_2 : decode cX1_longestThread 2 = .ok (.invokevirtual 141, 3) := by decide +kernel
theorem dX1_longestThread_5 : decode cX1_longestThread 5 = .ok (.invokevirtual 120, 3) := by decide +kernel
theorem dX1_longestThread_8 : decode cX1_longestThread 8 = .ok (.ireturn, 1) := by decide +kernel
theorem dX1_bits_0 : decode cX1_bits 0 = .ok (.iconst 0, 1) := by decide +kernel
theorem dX1_bits_1 : decode cX1_bits 1 = .ok (.istore_n 1, 1) := by decide +kernel
theorem dX1_bits_2 : decode cX1_bits 2 = .ok (.iload_n 0, 1) := by decide +kernel
theorem dX1_bits_3 : decode cX1_bits 3 = .ok (.istore_n 2, 1) := by decide +kernel
theorem dX1_bits_4 : decode cX1_bits 4 = .ok (.iload_n 2, 1) := by decide +kernel
theorem dX1_bits_5 : decode cX1_bits 5 = .ok (.ifCond .le 16, 3) := by decide +kernel
theorem dX1_bits_8 : decode cX1_bits 8 = .ok (.iload_n 1, 1) := by decide +kernel
theorem dX1_bits_9 : decode cX1_bits 9 = .ok (.iload_n 2, 1) := by decide +kernel
theorem dX1_bits_10 : decode cX1_bits 10 = .ok (.iconst 2, 1) := by decide +kernel
theorem dX1_bits_11 : decode cX1_bits 11 = .ok (.irem, 1) := by decide +kernel
theorem dX1_bits_12 : decode cX1_bits 12 = .ok (.iadd, 1) := by decide +kernel
theorem dX1_bits_13 : decode cX1_bits 13 = .ok (.istore_n 1, 1) := by decide +kernel
theorem dX1_bits_14 : decode cX1_bits 14 = .ok (.iload_n 2, 1) := by decide +kernel
theorem dX1_bits_15 : decode cX1_bits 15 = .ok (.iconst 2, 1) := by decide +kernel
theorem dX1_bits_16 : decode cX1_bits 16 = .ok (.idiv, 1) := by decide +kernel
theorem dX1_bits_17 : decode cX1_bits 17 = .ok (.istore_n 2, 1) := by decide +kernel
theorem dX1_bits_18 : decode cX1_bits 18 = .ok (.goto (-14), 3) := by decide +kernel
theorem dX1_bits_21 : decode cX1_bits 21 = .ok (.iload_n 1, 1) := by decide +kernel
theorem dX1_bits_22 : decode cX1_bits 22 = .ok (.ireturn, 1) := by decide +kernel
set_option maxRecDepth 20000 in
theorem ggX1_threadsOf_X1_isSpeaker : GoodIn wsX1_threadsOf wsX1_isSpeaker := goodIn_r _ [6, 7, 8, 5, 9] (by decide +kernel) (by decide +kernel)
set_option maxRecDepth 20000 in
theorem gX1_threadsOf_X1_isSpeaker : GoodIn wsX1_threadsOf (va_wsS RX1 83 yX1_isSpeaker wsX1_isSpeaker) := goodIn_app (goodIn_of _ (by decide +kernel)) ggX1_threadsOf_X1_isSpeaker
set_option maxRecDepth 20000 in
theorem ggX1_threadsOf_X1_fail : GoodIn wsX1_threadsOf wsX1_fail := goodIn_r _ [13, 1, 69, 70, 71, 72, 73, 74, 75] (by decide +kernel) (by decide +kernel)
set_option maxRecDepth 20000 in
theorem gX1_threadsOf_X1_fail : GoodIn wsX1_threadsOf (wsV RX1 86 RX1 yX1_fail wsX1_fail) := goodIn_app (goodIn_of _ (by decide +kernel)) ggX1_threadsOf_X1_fail
set_option maxRecDepth 20000 in
theorem ggX1_threadsOf_X1_many : GoodIn wsX1_threadsOf wsX1_many := goodIn_r _ [17, 18, 19, 69, 70, 71, 72, 73, 74, 75] (by decide +kernel) (by decide +kernel)
set_option maxRecDepth 20000 in
theorem gX1_threadsOf_X1_many : GoodIn wsX1_threadsOf (wsV RX1 34 RX1 yX1_many wsX1_many) := goodIn_app (goodIn_of _ (by decide +kernel)) ggX1_threadsOf_X1_many
set_option maxRecDepth 20000 in
theorem ggX1_threadsOf_X1_place : GoodIn wsX1_threadsOf wsX1_place := goodIn_r _ [23, 19, 69, 70, 71, 72, 73, 74, 75] (by decide +kernel) (by decide +kernel)
set_option maxRecDepth 20000 in
theorem gX1_threadsOf_X1_place : GoodIn wsX1_threadsOf (wsV RX1 48 RX1 yX1_place wsX1_place) := goodIn_app (goodIn_of _ (by decide +kernel)) ggX1_threadsOf_X1_place
set_option maxRecDepth 20000 in
theorem ggX1_threadsOf_X1_thread : GoodIn wsX1_threadsOf wsX1_thread := goodIn_r _ [27, 28, 29, 30, 5, 31, 32, 33, 34, 35, 36, 20, 21, 22, 23, 19, 37, 38, 39, 40, 41, 42, 43, 44, 45, 46, 47, 48, 49, 50, 51, 52, 53, 54, 55, 56, 57, 58, 59, 60, 61, 62, 2, 63, 64, 65, 69, 70, 71, 72, 73, 74, 75] (by decide +kernel) (by decide +kernel)
set_option maxRecDepth 20000 in
theorem gX1_threadsOf_X1_thread : GoodIn wsX1_threadsOf (wsV RX1 132 RX1 yX1_thread wsX1_thread) := goodIn_app (goodIn_of _ (by decide +kernel)) ggX1_threadsOf_X1_thread
set_option maxRecDepth 20000 in
theorem ggX1_threadsOf_X1_bits : GoodIn wsX1_threadsOf wsX1_bits := goodIn_r _ [68] (by decide +kernel) (by decide +kernel)
set_option maxRecDepth 20000 in
theorem gX1_threadsOf_X1_bits : GoodIn wsX1_threadsOf (va_wsS RX1 144 yX1_bits wsX1_bits) := goodIn_app (goodIn_of _ (by decide +kernel)) ggX1_threadsOf_X1_bits
theorem dX1_threadsOf_0 : decode cX1_threadsOf 0 = .ok (.aload_n 0, 1) := by decide +kernel
theorem dX1_threadsOf_1 : decode cX1_threadsOf 1 = .ok (.iconst 0, 1) := by decide +kernel
theorem dX1_threadsOf_2 : decode cX1_threadsOf 2 = .ok (.putfield 24, 3) := by decide +kernel
theorem dX1_threadsOf_5 : decode cX1_threadsOf 5 = .ok (.iload_n 1, 1) := by decide +kernel
theorem dX1_threadsOf_6 : decode cX1_threadsOf 6 = .ok (.invokestatic 83, 3) := by decide +kernel
theorem dX1_threadsOf_9 : decode cX1_threadsOf 9 = .ok (.ifCond .ne 9, 3) := by decide +kernel
theorem dX1_threadsOf_12 : decode cX1_threadsOf 12 = .ok (.aload_n 0, 1) := by decide +kernel
theorem dX1_threadsOf_13 : decode cX1_threadsOf 13 = .ok (.iconst 1, 1) := by decide +kernel
theorem dX1_threadsOf_14 : decode cX1_threadsOf 14 = .ok (.invokevirtual 86, 3) := by decide +kernel
theorem dX1_threadsOf_17 : decode cX1_threadsOf 17 = .ok (.ireturn, 1) := by decide +kernel
theorem dX1_threadsOf_18 : decode cX1_threadsOf 18 = .ok (.iconst 0, 1) := by decide +kernel
theorem dX1_threadsOf_19 : decode cX1_threadsOf 19 = .ok (.istore_n 2, 1) := by decide +kernel
theorem dX1_threadsOf_20 : decode cX1_threadsOf 20 = .ok (.iconst 0, 1) := by decide +kernel
theorem dX1_threadsOf_21 : decode cX1_threadsOf 21 = .ok (.istore_n 3, 1) := by decide +kernel
theorem dX1_threadsOf_22 : decode cX1_threadsOf 22 = .ok (.iload_n 3, 1) := by decide +kernel
theorem dX1_threadsOf_23 : decode cX1_threadsOf 23 = .ok (.aload_n 0, 1) := by decide +kernel
theorem dX1_threadsOf_24 : decode cX1_threadsOf 24 = .ok (.invokevirtual 34, 3) := by decide +kernel
theorem dX1_threadsOf_27 : decode cX1_threadsOf 27 = .ok (.if_icmp .ge 33, 3) := by decide +kernel
theorem dX1_threadsOf_30 : decode cX1_threadsOf 30 = .ok (.aload_n 0, 1) := by decide +kernel
theorem dX1_threadsOf_31 : decode cX1_threadsOf 31 = .ok (.getfield 17, 3) := by decide +kernel
theorem dX1_threadsOf_34 : decode cX1_threadsOf 34 = .ok (.aload_n 0, 1) := by decide +kernel
theorem dX1_threadsOf_35 : decode cX1_threadsOf 35 = .ok (.iload_n 3, 1) := by decide +kernel
theorem dX1_threadsOf_36 : decode cX1_threadsOf 36 = .ok (.invokevirtual 48, 3) := by decide +kernel
theorem dX1_threadsOf_39 : decode cX1_threadsOf 39 = .ok (.iaload, 1) := by decide +kernel
theorem dX1_threadsOf_40 : decode cX1_threadsOf 40 = .ok (.iload_n 1, 1) := by decide +kernel
theorem dX1_threadsOf_41 : decode cX1_threadsOf 41 = .ok (.if_icmp .ne 13, 3) := by decide +kernel
theorem dX1_threadsOf_44 : decode cX1_threadsOf 44 = .ok (.iload_n 2, 1) := by decide +kernel
theorem dX1_threadsOf_45 : decode cX1_threadsOf 45 = .ok (.iconst 1, 1) := by decide +kernel
theorem dX1_threadsOf_46 : decode cX1_threadsOf 46 = .ok (.aload_n 0, 1) := by decide +kernel
theorem dX1_threadsOf_47 : decode cX1_threadsOf 47 = .ok (.iload_n 3, 1) := by decide +kernel
theorem dX1_threadsOf_48 : decode cX1_threadsOf 48 = .ok (.invokevirtual 132, 3) := by decide +kernel
theorem dX1_threadsOf_51 : decode cX1_threadsOf 51 = .ok (.ishl, 1) := by decide +kernel
theorem dX1_threadsOf_52 : decode cX1_threadsOf 52 = .ok (.ior, 1) := by decide +kernel
theorem dX1_threadsOf_53 : decode cX1_threadsOf 53 = .ok (.istore_n 2, 1) := by decide +kernel
theorem dX1_threadsOf_54 : decode cX1_threadsOf 54 = .ok (.iinc 3 1, 3) := by decide +kernel
theorem dX1_threadsOf_57 : decode cX1_threadsOf 57 = .ok (.goto (-35), 3) := by decide +kernel
theorem dX1_threadsOf_60 : decode cX1_threadsOf 60 = .ok (.iload_n 2, 1) := by decide +kernel
theorem dX1_threadsOf_61 : decode cX1_threadsOf 61 = .ok (.invokestatic 144, 3) := by decide +kernel
theorem dX1_threadsOf_64 : decode cX1_threadsOf 64 = .ok (.ireturn, 1) := by decide +kernel
set_option maxRecDepth 20000 in
theorem ggX1_topicsIn_X1_isThread : GoodIn wsX1_topicsIn wsX1_isThread := goodIn_r _ [7, 8, 9, 10, 6, 11, 12, 13, 14, 15, 16, 2, 17, 18, 19, 20, 21, 22, 23, 24, 25, 26, 27, 28, 29, 30, 31, 32, 33, 34, 35, 36, 37, 38, 39, 40, 41, 42, 43, 44, 45, 46, 47, 48, 49, 50, 51, 52, 53, 54, 55, 56, 57, 58, 59, 60, 61, 62, 63, 64, 65, 66, 78, 79, 80, 81, 82, 83, 84] (by decide +kernel) (by decide +kernel)
set_option maxRecDepth 20000 in
theorem gX1_topicsIn_X1_isThread : GoodIn wsX1_topicsIn (wsV RX1 135 RX1 yX1_isThread wsX1_isThread) := goodIn_app (goodIn_of _ (by decide +kernel)) ggX1_topicsIn_X1_isThread
set_option maxRecDepth 20000 in
theorem ggX1_topicsIn_X1_fail : GoodIn wsX1_topicsIn wsX1_fail := goodIn_r _ [70, 1, 78, 79, 80, 81, 82, 83, 84] (by decide +kernel) (by decide +kernel)
set_option maxRecDepth 20000 in
theorem gX1_topicsIn_X1_fail : GoodIn wsX1_topicsIn (wsV RX1 86 RX1 yX1_fail wsX1_fail) := goodIn_app (goodIn_of _ (by decide +kernel)) ggX1_topicsIn_X1_fail
set_option maxRecDepth 20000 in
theorem ggX1_topicsIn_X1_many : GoodIn wsX1_topicsIn wsX1_many := goodIn_r _ [15, 16, 2, 78, 79, 80, 81, 82, 83, 84] (by decide +kernel) (by decide +kernel)
set_option maxRecDepth 20000 in
theorem gX1_topicsIn_X1_many : GoodIn wsX1_topicsIn (wsV RX1 34 RX1 yX1_many wsX1_many) := goodIn_app (goodIn_of _ (by decide +kernel)) ggX1_topicsIn_X1_many
set_option maxRecDepth 20000 in
theorem ggX1_topicsIn_X1_thread : GoodIn wsX1_topicsIn wsX1_thread := goodIn_r _ [74, 21, 22, 23, 6, 24, 25, 26, 27, 28, 29, 30, 31, 32, 33, 2, 34, 35, 36, 37, 38, 39, 40, 41, 42, 43, 44, 45, 46, 47, 48, 49, 50, 51, 52, 53, 54, 55, 56, 57, 58, 59, 60, 61, 62, 63, 78, 79, 80, 81, 82, 83, 84] (by decide +kernel) (by decide +kernel)
set_option maxRecDepth 20000 in
theorem gX1_topicsIn_X1_thread : GoodIn wsX1_topicsIn (wsV RX1 132 RX1 yX1_thread wsX1_thread) := goodIn_app (goodIn_of _ (by decide +kernel)) ggX1_topicsIn_X1_thread
set_option maxRecDepth 20000 in
theorem ggX1_topicsIn_X1_place : GoodIn wsX1_topicsIn wsX1_place := goodIn_r _ [33, 2, 78, 79, 80, 81, 82, 83, 84] (by decide +kernel) (by decide +kernel)
set_option maxRecDepth 20000 in
theorem gX1_topicsIn_X1_place : GoodIn wsX1_topicsIn (wsV RX1 48 RX1 yX1_place wsX1_place) := goodIn_app (goodIn_of _ (by decide +kernel)) ggX1_topicsIn_X1_place
set_option maxRecDepth 20000 in
theorem ggX1_topicsIn_X1_bits : GoodIn wsX1_topicsIn wsX1_bits := goodIn_r _ [77] (by decide +kernel) (by decide +kernel)
set_option maxRecDepth 20000 in
theorem gX1_topicsIn_X1_bits : GoodIn wsX1_topicsIn (va_wsS RX1 144 yX1_bits wsX1_bits) := goodIn_app (goodIn_of _ (by decide +kernel)) ggX1_topicsIn_X1_bits
theorem dX1_topicsIn_0 : decode cX1_topicsIn 0 = .ok (.aload_n 0, 1) := by decide +kernel
theorem dX1_topicsIn_1 : decode cX1_topicsIn 1 = .ok (.iconst 0, 1) := by decide +kernel
theorem dX1_topicsIn_2 : decode cX1_topicsIn 2 = .ok (.putfield 24, 3) := by decide +kernel
theorem dX1_topicsIn_5 : decode cX1_topicsIn 5 = .ok (.aload_n 0, 1) := by decide +kernel
theorem dX1_topicsIn_6 : decode cX1_topicsIn 6 = .ok (.iload_n 1, 1) := by decide +kernel
theorem dX1_topicsIn_7 : decode cX1_topicsIn 7 = .ok (.invokevirtual 135, 3) := by decide +kernel
theorem dX1_topicsIn_10 : decode cX1_topicsIn 10 = .ok (.ifCond .ne 9, 3) := by decide +kernel
theorem dX1_topicsIn_13 : decode cX1_topicsIn 13 = .ok (.aload_n 0, 1) := by decide +kernel
theorem dX1_topicsIn_14 : decode cX1_topicsIn 14 = .ok (.iconst 1, 1) := by decide +kernel
theorem dX1_topicsIn_15 : decode cX1_topicsIn 15 = .ok (.invokevirtual 86, 3) := by decide +kernel
theorem dX1_topicsIn_18 : decode cX1_topicsIn 18 = .ok (.ireturn, 1) := by decide +kernel
theorem dX1_topicsIn_19 : decode cX1_topicsIn 19 = .ok (.iconst 0, 1) := by decide +kernel
theorem dX1_topicsIn_20 : decode cX1_topicsIn 20 = .ok (.istore_n 2, 1) := by decide +kernel
theorem dX1_topicsIn_21 : decode cX1_topicsIn 21 = .ok (.iconst 0, 1) := by decide +kernel
theorem dX1_topicsIn_22 : decode cX1_topicsIn 22 = .ok (.istore_n 3, 1) := by decide +kernel
theorem dX1_topicsIn_23 : decode cX1_topicsIn 23 = .ok (.iload_n 3, 1) := by decide +kernel
theorem dX1_topicsIn_24 : decode cX1_topicsIn 24 = .ok (.aload_n 0, 1) := by decide +kernel
theorem dX1_topicsIn_25 : decode cX1_topicsIn 25 = .ok (.invokevirtual 34, 3) := by decide +kernel
theorem dX1_topicsIn_28 : decode cX1_topicsIn 28 = .ok (.if_icmp .ge 33, 3) := by decide +kernel
theorem dX1_topicsIn_31 : decode cX1_topicsIn 31 = .ok (.aload_n 0, 1) := by decide +kernel
theorem dX1_topicsIn_32 : decode cX1_topicsIn 32 = .ok (.iload_n 3, 1) := by decide +kernel
theorem dX1_topicsIn_33 : decode cX1_topicsIn 33 = .ok (.invokevirtual 132, 3) := by decide +kernel
theorem dX1_topicsIn_36 : decode cX1_topicsIn 36 = .ok (.iload_n 1, 1) := by decide +kernel
theorem dX1_topicsIn_37 : decode cX1_topicsIn 37 = .ok (.if_icmp .ne 18, 3) := by decide +kernel
theorem dX1_topicsIn_40 : decode cX1_topicsIn 40 = .ok (.iload_n 2, 1) := by decide +kernel
theorem dX1_topicsIn_41 : decode cX1_topicsIn 41 = .ok (.iconst 1, 1) := by decide +kernel
theorem dX1_topicsIn_42 : decode cX1_topicsIn 42 = .ok (.aload_n 0, 1) := by decide +kernel
theorem dX1_topicsIn_43 : decode cX1_topicsIn 43 = .ok (.getfield 13, 3) := by decide +kernel
theorem dX1_topicsIn_46 : decode cX1_topicsIn 46 = .ok (.aload_n 0, 1) := by decide +kernel
theorem dX1_topicsIn_47 : decode cX1_topicsIn 47 = .ok (.iload_n 3, 1) := by decide +kernel
theorem dX1_topicsIn_48 : decode cX1_topicsIn 48 = .ok (.invokevirtual 48, 3) := by decide +kernel
theorem dX1_topicsIn_51 : decode cX1_topicsIn 51 = .ok (.iaload, 1) := by decide +kernel
theorem dX1_topicsIn_52 : decode cX1_topicsIn 52 = .ok (.ishl, 1) := by decide +kernel
theorem dX1_topicsIn_53 : decode cX1_topicsIn 53 = .ok (.ior, 1) := by decide +kernel
theorem dX1_topicsIn_54 : decode cX1_topicsIn 54 = .ok (.istore_n 2, 1) := by decide +kernel
theorem dX1_topicsIn_55 : decode cX1_topicsIn 55 = .ok (.iinc 3 1, 3) := by decide +kernel
theorem dX1_topicsIn_58 : decode cX1_topicsIn 58 = .ok (.goto (-35), 3) := by decide +kernel
theorem dX1_topicsIn_61 : decode cX1_topicsIn 61 = .ok (.iload_n 2, 1) := by decide +kernel
theorem dX1_topicsIn_62 : decode cX1_topicsIn 62 = .ok (.invokestatic 144, 3) := by decide +kernel
theorem dX1_topicsIn_65 : decode cX1_topicsIn 65 = .ok (.ireturn, 1) := by decide +kernel
set_option maxRecDepth 20000 in
theorem ggX1_mends_X1_broken : GoodIn wsX1_mends wsX1_broken := goodIn_r _ [9, 10, 11, 12, 13, 8, 14, 15, 16, 17, 18, 19, 20, 21, 22, 23, 24, 25, 26, 27, 28, 29, 30, 31, 32, 3, 33, 1, 2, 4, 34, 35, 36, 37, 38, 39, 40, 41, 42, 43, 44, 45, 46, 47, 48, 49, 50, 51, 52] (by decide +kernel) (by decide +kernel)
set_option maxRecDepth 20000 in
theorem gX1_mends_X1_broken : GoodIn wsX1_mends (wsV RX1 74 RX1 yX1_broken wsX1_broken) := goodIn_app (goodIn_of _ (by decide +kernel)) ggX1_mends_X1_broken
set_option maxRecDepth 20000 in
theorem ggX1_mends_X1_coughsOf : GoodIn wsX1_mends wsX1_coughsOf := goodIn_r _ [37, 24, 25, 26, 8, 27, 15, 16, 17, 18, 19, 11, 12, 13, 14, 46, 47, 48, 49, 50, 51, 52] (by decide +kernel) (by decide +kernel)
set_option maxRecDepth 20000 in
theorem gX1_mends_X1_coughsOf : GoodIn wsX1_mends (wsV RX1 60 RX1 yX1_coughsOf wsX1_coughsOf) := goodIn_app (goodIn_of _ (by decide +kernel)) ggX1_mends_X1_coughsOf
set_option maxRecDepth 20000 in
theorem ggX1_mends_X1_strain : GoodIn wsX1_mends wsX1_strain := goodIn_r _ [23, 19, 11, 12, 13, 8, 14, 15, 16, 17, 18, 24, 25, 26, 27, 28, 29, 30, 31, 32, 3, 33, 1, 2, 4, 34, 35, 36, 37, 46, 47, 48, 49, 50, 51, 52] (by decide +kernel) (by decide +kernel)
set_option maxRecDepth 20000 in
theorem gX1_mends_X1_strain : GoodIn wsX1_mends (wsV RX1 63 RX1 yX1_strain wsX1_strain) := goodIn_app (goodIn_of _ (by decide +kernel)) ggX1_mends_X1_strain
set_option maxRecDepth 20000 in
theorem ggX1_mends_X1_areSame : GoodIn wsX1_mends wsX1_areSame := goodIn_r _ [41, 42, 11, 12, 13, 8, 14, 15, 16, 17, 18, 19, 24, 25, 26, 27, 46, 47, 48, 49, 50, 51, 52] (by decide +kernel) (by decide +kernel)
set_option maxRecDepth 20000 in
theorem gX1_mends_X1_areSame : GoodIn wsX1_mends (wsV RX1 66 RX1 yX1_areSame wsX1_areSame) := goodIn_app (goodIn_of _ (by decide +kernel)) ggX1_mends_X1_areSame
set_option maxRecDepth 20000 in
theorem ggX1_mends_X1_isPoliteOr : GoodIn wsX1_mends wsX1_isPoliteOr := goodIn_r _ [45] (by decide +kernel) (by decide +kernel)
set_option maxRecDepth 20000 in
theorem gX1_mends_X1_isPoliteOr : GoodIn wsX1_mends (va_wsS RX1 70 yX1_isPoliteOr wsX1_isPoliteOr) := goodIn_app (goodIn_of _ (by decide +kernel)) ggX1_mends_X1_isPoliteOr
theorem dX1_mends_0 : decode cX1_mends 0 = .ok (.aload_n 0, 1) := by decide +kernel
theorem dX1_mends_1 : decode cX1_mends 1 = .ok (.iload_n 1, 1) := by decide +kernel
theorem dX1_mends_2 : decode cX1_mends 2 = .ok (.invokevirtual 74, 3) := by decide +kernel
theorem dX1_mends_5 : decode cX1_mends 5 = .ok (.ifCond .ne 5, 3) := by decide +kernel
theorem dX1_mends_8 : decode cX1_mends 8 = .ok (.iconst 0, 1) := by decide +kernel
theorem dX1_mends_9 : decode cX1_mends 9 = .ok (.ireturn, 1) := by decide +kernel
theorem dX1_mends_10 : decode cX1_mends 10 = .ok (.iconst 3, 1) := by decide +kernel
theorem dX1_mends_11 : decode cX1_mends 11 = .ok (.istore_n 2, 1) := by decide +kernel
theorem dX1_mends_12 : decode cX1_mends 12 = .ok (.iconst 1, 1) := by decide +kernel
theorem dX1_mends_13 : decode cX1_mends 13 = .ok (.istore_n 3, 1) := by decide +kernel
theorem dX1_mends_14 : decode cX1_mends 14 = .ok (.iload_n 3, 1) := by decide +kernel
theorem dX1_mends_15 : decode cX1_mends 15 = .ok (.aload_n 0, 1) := by decide +kernel
theorem dX1_mends_16 : decode cX1_mends 16 = .ok (.iload_n 1, 1) := by decide +kernel
theorem dX1_mends_17 : decode cX1_mends 17 = .ok (.invokevirtual 60, 3) := by decide +kernel
theorem dX1_mends_20 : decode cX1_mends 20 = .ok (.if_icmp .gt 33, 3) := by decide +kernel
theorem dX1_mends_23 : decode cX1_mends 23 = .ok (.aload_n 0, 1) := by decide +kernel
theorem dX1_mends_24 : decode cX1_mends 24 = .ok (.iload_n 1, 1) := by decide +kernel
theorem dX1_mends_25 : decode cX1_mends 25 = .ok (.invokevirtual 63, 3) := by decide +kernel
theorem dX1_mends_28 : decode cX1_mends 28 = .ok (.iload_n 3, 1) := by decide +kernel
theorem dX1_mends_29 : decode cX1_mends 29 = .ok (.isub, 1) := by decide +kernel
theorem dX1_mends_30 : decode cX1_mends 30 = .ok (.aload_n 0, 1) := by decide +kernel
theorem dX1_mends_31 : decode cX1_mends 31 = .ok (.iload_n 1, 1) := by decide +kernel
theorem dX1_mends_32 : decode cX1_mends 32 = .ok (.invokevirtual 66, 3) := by decide +kernel
theorem dX1_mends_35 : decode cX1_mends 35 = .ok (.invokestatic 70, 3) := by decide +kernel
theorem dX1_mends_38 : decode cX1_mends 38 = .ok (.ifCond .eq 9, 3) := by decide +kernel
theorem dX1_mends_41 : decode cX1_mends 41 = .ok (.iload_n 2, 1) := by decide +kernel
theorem dX1_mends_42 : decode cX1_mends 42 = .ok (.iload_n 3, 1) := by decide +kernel
theorem dX1_mends_43 : decode cX1_mends 43 = .ok (.invokestatic 44, 3) := by decide +kernel
theorem dX1_mends_46 : decode cX1_mends 46 = .ok (.istore_n 2, 1) := by decide +kernel
theorem dX1_mends_47 : decode cX1_mends 47 = .ok (.iinc 3 1, 3) := by decide +kernel
theorem dX1_mends_50 : decode cX1_mends 50 = .ok (.goto (-36), 3) := by decide +kernel
theorem dX1_mends_53 : decode cX1_mends 53 = .ok (.iload_n 2, 1) := by decide +kernel
theorem dX1_mends_54 : decode cX1_mends 54 = .ok (.ireturn, 1) := by decide +kernel
set_option maxRecDepth 20000 in
theorem ggX1_mendsAll_X1_many : GoodIn wsX1_mendsAll wsX1_many := goodIn_r _ [5, 6, 7, 55, 56, 57, 58, 59, 60, 61] (by decide +kernel) (by decide +kernel)
set_option maxRecDepth 20000 in
theorem gX1_mendsAll_X1_many : GoodIn wsX1_mendsAll (wsV RX1 34 RX1 yX1_many wsX1_many) := goodIn_app (goodIn_of _ (by decide +kernel)) ggX1_mendsAll_X1_many
set_option maxRecDepth 20000 in
theorem ggX1_mendsAll_X1_mends : GoodIn wsX1_mendsAll wsX1_mends := goodIn_r _ [11, 12, 13, 14, 15, 16, 17, 18, 4, 19, 20, 21, 22, 23, 24, 25, 26, 27, 28, 7, 29, 30, 31, 32, 33, 34, 35, 36, 37, 38, 39, 40, 41, 42, 43, 44, 45, 46, 47, 48, 49, 50, 51, 52, 53, 54, 55, 56, 57, 58, 59, 60, 61] (by decide +kernel) (by decide +kernel)
set_option maxRecDepth 20000 in
theorem gX1_mendsAll_X1_mends : GoodIn wsX1_mendsAll (wsV RX1 147 RX1 yX1_mends wsX1_mends) := goodIn_app (goodIn_of _ (by decide +kernel)) ggX1_mendsAll_X1_mends
theorem dX1_mendsAll_0 : decode cX1_mendsAll 0 = .ok (.iconst 0, 1) := by decide +kernel
theorem dX1_mendsAll_1 : decode cX1_mendsAll 1 = .ok (.istore_n 1, 1) := by decide +kernel
theorem dX1_mendsAll_2 : decode cX1_mendsAll 2 = .ok (.iconst 0, 1) := by decide +kernel
theorem dX1_mendsAll_3 : decode cX1_mendsAll 3 = .ok (.istore_n 2, 1) := by decide +kernel
theorem dX1_mendsAll_4 : decode cX1_mendsAll 4 = .ok (.iload_n 2, 1) := by decide +kernel
theorem dX1_mendsAll_5 : decode cX1_mendsAll 5 = .ok (.aload_n 0, 1) := by decide +kernel
theorem dX1_mendsAll_6 : decode cX1_mendsAll 6 = .ok (.invokevirtual 34, 3) := by decide +kernel
theorem dX1_mendsAll_9 : decode cX1_mendsAll 9 = .ok (.iconst 1, 1) := by decide +kernel
theorem dX1_mendsAll_10 : decode cX1_mendsAll 10 = .ok (.isub, 1) := by decide +kernel
theorem dX1_mendsAll_11 : decode cX1_mendsAll 11 = .ok (.if_icmp .ge 17, 3) := by decide +kernel
theorem dX1_mendsAll_14 : decode cX1_mendsAll 14 = .ok (.iload_n 1, 1) := by decide +kernel
theorem dX1_mendsAll_15 : decode cX1_mendsAll 15 = .ok (.aload_n 0, 1) := by decide +kernel
theorem dX1_mendsAll_16 : decode cX1_mendsAll 16 = .ok (.iload_n 2, 1) := by decide +kernel
theorem dX1_mendsAll_17 : decode cX1_mendsAll 17 = .ok (.invokevirtual 147, 3) := by decide +kernel
theorem dX1_mendsAll_20 : decode cX1_mendsAll 20 = .ok (.iadd, 1) := by decide +kernel
theorem dX1_mendsAll_21 : decode cX1_mendsAll 21 = .ok (.istore_n 1, 1) := by decide +kernel
theorem dX1_mendsAll_22 : decode cX1_mendsAll 22 = .ok (.iinc 2 1, 3) := by decide +kernel
theorem dX1_mendsAll_25 : decode cX1_mendsAll 25 = .ok (.goto (-21), 3) := by decide +kernel
theorem dX1_mendsAll_28 : decode cX1_mendsAll 28 = .ok (.iload_n 1, 1) := by decide +kernel
theorem dX1_mendsAll_29 : decode cX1_mendsAll 29 = .ok (.ireturn, 1) := by decide +kernel
set_option maxRecDepth 20000 in
theorem ggX1_costOfMending_X1_gap : GoodIn wsX1_costOfMending wsX1_gap := goodIn_r _ [5, 6, 7, 8, 9, 4, 10, 11, 12, 13, 14, 15, 16, 17, 18, 19, 67, 68, 69, 70, 71, 72, 73] (by decide +kernel) (by decide +kernel)
set_option maxRecDepth 20000 in
theorem gX1_costOfMending_X1_gap : GoodIn wsX1_costOfMending (wsV RX1 126 RX1 yX1_gap wsX1_gap) := goodIn_app (goodIn_of _ (by decide +kernel)) ggX1_costOfMending_X1_gap
set_option maxRecDepth 20000 in
theorem ggX1_costOfMending_X1_mends : GoodIn wsX1_costOfMending wsX1_mends := goodIn_r _ [23, 24, 25, 26, 27, 28, 29, 30, 4, 31, 32, 33, 34, 35, 36, 37, 38, 39, 40, 16, 41, 42, 43, 44, 45, 46, 47, 48, 49, 50, 51, 52, 53, 54, 55, 56, 57, 58, 59, 60, 61, 62, 63, 64, 65, 66, 67, 68, 69, 70, 71, 72, 73] (by decide +kernel) (by decide +kernel)
set_option maxRecDepth 20000 in
theorem gX1_costOfMending_X1_mends : GoodIn wsX1_costOfMending (wsV RX1 147 RX1 yX1_mends wsX1_mends) := goodIn_app (goodIn_of _ (by decide +kernel)) ggX1_costOfMending_X1_mends
theorem dX1_costOfMending_0 : decode cX1_costOfMending 0 = .ok (.aload_n 0, 1) := by decide +kernel
theorem dX1_costOfMending_1 : decode cX1_costOfMending 1 = .ok (.iload_n 1, 1) := by decide +kernel
theorem dX1_costOfMending_2 : decode cX1_costOfMending 2 = .ok (.invokevirtual 126, 3) := by decide +kernel
theorem dX1_costOfMending_5 : decode cX1_costOfMending 5 = .ok (.ifCond .eq 11, 3) := by decide +kernel
theorem dX1_costOfMending_8 : decode cX1_costOfMending 8 = .ok (.aload_n 0, 1) := by decide +kernel
theorem dX1_costOfMending_9 : decode cX1_costOfMending 9 = .ok (.iload_n 1, 1) := by decide +kernel
theorem dX1_costOfMending_10 : decode cX1_costOfMending 10 = .ok (.invokevirtual 147, 3) := by decide +kernel
theorem dX1_costOfMending_13 : decode cX1_costOfMending 13 = .ok (.goto 4, 3) := by decide +kernel
theorem dX1_costOfMending_16 : decode cX1_costOfMending 16 = .ok (.iconst 0, 1) := by decide +kernel
theorem dX1_costOfMending_17 : decode cX1_costOfMending 17 = .ok (.ireturn, 1) := by decide +kernel
set_option maxRecDepth 20000 in
theorem ggX1_costOfAll_X1_mendsAll : GoodIn wsX1_costOfAll wsX1_mendsAll := goodIn_r _ [5, 6, 7, 8, 4, 9, 10, 11, 12, 13, 14, 15, 16, 17, 18, 19, 20, 21, 22, 23, 24, 25, 26, 27, 28, 29, 30, 31, 32, 33, 34, 35, 36, 37, 38, 39, 40, 41, 42, 43, 44, 45, 46, 47, 48, 49, 50, 51, 52, 53, 54, 55, 56, 57, 58, 64, 65, 66, 67, 68, 69, 70] (by decide +kernel) (by decide +kernel)
set_option maxRecDepth 20000 in
theorem gX1_costOfAll_X1_mendsAll : GoodIn wsX1_costOfAll (wsV RX1 150 RX1 yX1_mendsAll wsX1_mendsAll) := goodIn_app (goodIn_of _ (by decide +kernel)) ggX1_costOfAll_X1_mendsAll
set_option maxRecDepth 20000 in
theorem ggX1_costOfAll_X1_told : GoodIn wsX1_costOfAll wsX1_told := goodIn_r _ [62, 63, 64, 65, 66, 67, 68, 69, 70] (by decide +kernel) (by decide +kernel)
set_option maxRecDepth 20000 in
theorem gX1_costOfAll_X1_told : GoodIn wsX1_costOfAll (wsV RX1 120 RX1 yX1_told wsX1_told) := goodIn_app (goodIn_of _ (by decide +kernel)) ggX1_costOfAll_X1_told
theorem dX1_costOfAll_0 : decode cX1_costOfAll 0 = .ok (.aload_n 0, 1) := by decide +kernel
theorem dX1_costOfAll_1 : decode cX1_costOfAll 1 = .ok (.aload_n 0, 1) := by decide +kernel
theorem dX1_costOfAll_2 : decode cX1_costOfAll 2 = .ok (.invokevirtual 150, 3) := by decide +kernel
theorem dX1_costOfAll_5 : decode cX1_costOfAll 5 = .ok (.invokevirtual 120, 3) := by decide +kernel
theorem dX1_costOfAll_8 : decode cX1_costOfAll 8 = .ok (.ireturn, 1) := by decide +kernel
set_option maxRecDepth 20000 in
theorem ggX1_spliced_X1_from : GoodIn wsX1_spliced wsX1_from := goodIn_r _ [6, 7, 8, 9, 5, 10, 1, 58, 59, 60, 61, 62, 63, 64] (by decide +kernel) (by decide +kernel)
set_option maxRecDepth 20000 in
theorem gX1_spliced_X1_from : GoodIn wsX1_spliced (wsV RX1 54 RX1 yX1_from wsX1_from) := goodIn_app (goodIn_of _ (by decide +kernel)) ggX1_spliced_X1_from
set_option maxRecDepth 20000 in
theorem ggX1_spliced_X1_to : GoodIn wsX1_spliced wsX1_to := goodIn_r _ [14, 7, 8, 9, 5, 10, 1, 58, 59, 60, 61, 62, 63, 64] (by decide +kernel) (by decide +kernel)
set_option maxRecDepth 20000 in
theorem gX1_spliced_X1_to : GoodIn wsX1_spliced (wsV RX1 51 RX1 yX1_to wsX1_to) := goodIn_app (goodIn_of _ (by decide +kernel)) ggX1_spliced_X1_to
