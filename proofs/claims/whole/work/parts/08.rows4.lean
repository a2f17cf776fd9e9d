set_option maxRecDepth 20000 in
theorem ggX1_spliced_X1_half : GoodIn wsX1_spliced wsX1_half := goodIn_r _ [17, 18, 19, 5, 20, 21, 22, 23, 24, 25, 26, 27] (by decide +kernel) (by decide +kernel)
set_option maxRecDepth 20000 in
theorem gX1_spliced_X1_half : GoodIn wsX1_spliced (va_wsS RX1 117 yX1_half wsX1_half) := goodIn_app (goodIn_of _ (by decide +kernel)) ggX1_spliced_X1_half
set_option maxRecDepth 20000 in
theorem ggX1_spliced_X1_apart : GoodIn wsX1_spliced wsX1_apart := goodIn_r _ [20, 21, 22, 23, 24, 25, 26, 27] (by decide +kernel) (by decide +kernel)
set_option maxRecDepth 20000 in
theorem gX1_spliced_X1_apart : GoodIn wsX1_spliced (va_wsS RX1 57 yX1_apart wsX1_apart) := goodIn_app (goodIn_of _ (by decide +kernel)) ggX1_spliced_X1_apart
set_option maxRecDepth 20000 in
theorem ggX1_spliced_X1_coughsOf : GoodIn wsX1_spliced wsX1_coughsOf := goodIn_r _ [31, 11, 12, 13, 5, 14, 7, 8, 9, 10, 1, 2, 3, 4, 6, 58, 59, 60, 61, 62, 63, 64] (by decide +kernel) (by decide +kernel)
set_option maxRecDepth 20000 in
theorem gX1_spliced_X1_coughsOf : GoodIn wsX1_spliced (wsV RX1 60 RX1 yX1_coughsOf wsX1_coughsOf) := goodIn_app (goodIn_of _ (by decide +kernel)) ggX1_spliced_X1_coughsOf
set_option maxRecDepth 20000 in
theorem ggX1_spliced_X1_areSame : GoodIn wsX1_spliced wsX1_areSame := goodIn_r _ [35, 36, 2, 3, 4, 5, 6, 7, 8, 9, 10, 1, 11, 12, 13, 14, 58, 59, 60, 61, 62, 63, 64] (by decide +kernel) (by decide +kernel)
set_option maxRecDepth 20000 in
theorem gX1_spliced_X1_areSame : GoodIn wsX1_spliced (wsV RX1 66 RX1 yX1_areSame wsX1_areSame) := goodIn_app (goodIn_of _ (by decide +kernel)) ggX1_spliced_X1_areSame
set_option maxRecDepth 20000 in
theorem ggX1_spliced_X1_isPoliteOr : GoodIn wsX1_spliced wsX1_isPoliteOr := goodIn_r _ [39] (by decide +kernel) (by decide +kernel)
set_option maxRecDepth 20000 in
theorem gX1_spliced_X1_isPoliteOr : GoodIn wsX1_spliced (va_wsS RX1 70 yX1_isPoliteOr wsX1_isPoliteOr) := goodIn_app (goodIn_of _ (by decide +kernel)) ggX1_spliced_X1_isPoliteOr
set_option maxRecDepth 20000 in
theorem ggX1_spliced_X1_allBroken : GoodIn wsX1_spliced wsX1_allBroken := goodIn_r _ [43, 44, 45, 46, 5, 47, 48, 1, 49, 50, 51, 52, 53, 2, 3, 4, 6, 7, 8, 9, 10, 54, 55, 56, 57, 11, 12, 13, 14, 18, 19, 20, 21, 22, 23, 24, 25, 26, 27, 28, 29, 30, 31, 32, 33, 34, 35, 36, 37, 38, 39, 58, 59, 60, 61, 62, 63, 64] (by decide +kernel) (by decide +kernel)
set_option maxRecDepth 20000 in
theorem gX1_spliced_X1_allBroken : GoodIn wsX1_spliced (wsV RX1 108 RX1 yX1_allBroken wsX1_allBroken) := goodIn_app (goodIn_of _ (by decide +kernel)) ggX1_spliced_X1_allBroken
set_option maxRecDepth 20000 in
theorem ggX1_spliced_X1_broken : GoodIn wsX1_spliced wsX1_broken := goodIn_r _ [52, 53, 2, 3, 4, 5, 6, 7, 8, 9, 10, 1, 54, 55, 56, 57, 11, 12, 13, 14, 18, 19, 20, 21, 22, 23, 24, 25, 26, 27, 28, 29, 30, 31, 32, 33, 34, 35, 36, 37, 38, 39, 58, 59, 60, 61, 62, 63, 64] (by decide +kernel) (by decide +kernel)
set_option maxRecDepth 20000 in
theorem gX1_spliced_X1_broken : GoodIn wsX1_spliced (wsV RX1 74 RX1 yX1_broken wsX1_broken) := goodIn_app (goodIn_of _ (by decide +kernel)) ggX1_spliced_X1_broken
theorem dX1_spliced_0 : decode cX1_spliced 0 = .ok (.aload_n 0, 1) := by decide +kernel
theorem dX1_spliced_1 : decode cX1_spliced 1 = .ok (.getfield 13, 3) := by decide +kernel
theorem dX1_spliced_4 : decode cX1_spliced 4 = .ok (.aload_n 0, 1) := by decide +kernel
theorem dX1_spliced_5 : decode cX1_spliced 5 = .ok (.iload_n 1, 1) := by decide +kernel
theorem dX1_spliced_6 : decode cX1_spliced 6 = .ok (.invokevirtual 54, 3) := by decide +kernel
theorem dX1_spliced_9 : decode cX1_spliced 9 = .ok (.iaload, 1) := by decide +kernel
theorem dX1_spliced_10 : decode cX1_spliced 10 = .ok (.istore_n 2, 1) := by decide +kernel
theorem dX1_spliced_11 : decode cX1_spliced 11 = .ok (.aload_n 0, 1) := by decide +kernel
theorem dX1_spliced_12 : decode cX1_spliced 12 = .ok (.getfield 13, 3) := by decide +kernel
theorem dX1_spliced_15 : decode cX1_spliced 15 = .ok (.aload_n 0, 1) := by decide +kernel
theorem dX1_spliced_16 : decode cX1_spliced 16 = .ok (.iload_n 1, 1) := by decide +kernel
theorem dX1_spliced_17 : decode cX1_spliced 17 = .ok (.invokevirtual 51, 3) := by decide +kernel
theorem dX1_spliced_20 : decode cX1_spliced 20 = .ok (.iaload, 1) := by decide +kernel
theorem dX1_spliced_21 : decode cX1_spliced 21 = .ok (.istore_n 3, 1) := by decide +kernel
theorem dX1_spliced_22 : decode cX1_spliced 22 = .ok (.iload_n 2, 1) := by decide +kernel
theorem dX1_spliced_23 : decode cX1_spliced 23 = .ok (.iload_n 3, 1) := by decide +kernel
theorem dX1_spliced_24 : decode cX1_spliced 24 = .ok (.invokestatic 117, 3) := by decide +kernel
theorem dX1_spliced_27 : decode cX1_spliced 27 = .ok (.iload_n 3, 1) := by decide +kernel
theorem dX1_spliced_28 : decode cX1_spliced 28 = .ok (.invokestatic 57, 3) := by decide +kernel
theorem dX1_spliced_31 : decode cX1_spliced 31 = .ok (.aload_n 0, 1) := by decide +kernel
theorem dX1_spliced_32 : decode cX1_spliced 32 = .ok (.iload_n 1, 1) := by decide +kernel
theorem dX1_spliced_33 : decode cX1_spliced 33 = .ok (.invokevirtual 60, 3) := by decide +kernel
theorem dX1_spliced_36 : decode cX1_spliced 36 = .ok (.iadd, 1) := by decide +kernel
theorem dX1_spliced_37 : decode cX1_spliced 37 = .ok (.aload_n 0, 1) := by decide +kernel
theorem dX1_spliced_38 : decode cX1_spliced 38 = .ok (.iload_n 1, 1) := by decide +kernel
theorem dX1_spliced_39 : decode cX1_spliced 39 = .ok (.invokevirtual 66, 3) := by decide +kernel
theorem dX1_spliced_42 : decode cX1_spliced 42 = .ok (.invokestatic 70, 3) := by decide +kernel
theorem dX1_spliced_45 : decode cX1_spliced 45 = .ok (.ifCond .ne 7, 3) := by decide +kernel
theorem dX1_spliced_48 : decode cX1_spliced 48 = .ok (.iconst 1, 1) := by decide +kernel
theorem dX1_spliced_49 : decode cX1_spliced 49 = .ok (.goto 4, 3) := by decide +kernel
theorem dX1_spliced_52 : decode cX1_spliced 52 = .ok (.iconst 0, 1) := by decide +kernel
theorem dX1_spliced_53 : decode cX1_spliced 53 = .ok (.istore 4, 2) := by decide +kernel
theorem dX1_spliced_55 : decode cX1_spliced 55 = .ok (.aload_n 0, 1) := by decide +kernel
theorem dX1_spliced_56 : decode cX1_spliced 56 = .ok (.invokevirtual 108, 3) := by decide +kernel
theorem dX1_spliced_59 : decode cX1_spliced 59 = .ok (.aload_n 0, 1) := by decide +kernel
theorem dX1_spliced_60 : decode cX1_spliced 60 = .ok (.iload_n 1, 1) := by decide +kernel
theorem dX1_spliced_61 : decode cX1_spliced 61 = .ok (.invokevirtual 74, 3) := by decide +kernel
theorem dX1_spliced_64 : decode cX1_spliced 64 = .ok (.ifCond .eq 7, 3) := by decide +kernel
theorem dX1_spliced_67 : decode cX1_spliced 67 = .ok (.iconst 1, 1) := by decide +kernel
theorem dX1_spliced_68 : decode cX1_spliced 68 = .ok (.goto 4, 3) := by decide +kernel
theorem dX1_spliced_71 : decode cX1_spliced 71 = .ok (.iconst 0, 1) := by decide +kernel
theorem dX1_spliced_72 : decode cX1_spliced 72 = .ok (.isub, 1) := by decide +kernel
theorem dX1_spliced_73 : decode cX1_spliced 73 = .ok (.iload 4, 2) := by decide +kernel
theorem dX1_spliced_75 : decode cX1_spliced 75 = .ok (.ifCond .eq 7, 3) := by decide +kernel
theorem dX1_spliced_78 : decode cX1_spliced 78 = .ok (.iconst 1, 1) := by decide +kernel
theorem dX1_spliced_79 : decode cX1_spliced 79 = .ok (.goto 4, 3) := by decide +kernel
theorem dX1_spliced_82 : decode cX1_spliced 82 = .ok (.iconst 0, 1) := by decide +kernel
theorem dX1_spliced_83 : decode cX1_spliced 83 = .ok (.iadd, 1) := by decide +kernel
theorem dX1_spliced_84 : decode cX1_spliced 84 = .ok (.ireturn, 1) := by decide +kernel
set_option maxRecDepth 20000 in
theorem ggX1_brokenAfterSplice_X1_gap : GoodIn wsX1_brokenAfterSplice wsX1_gap := goodIn_r _ [6, 7, 8, 9, 10, 5, 11, 12, 13, 14, 15, 16, 17, 18, 19, 20, 78, 79, 80, 81, 82, 83, 84] (by decide +kernel) (by decide +kernel)
set_option maxRecDepth 20000 in
theorem gX1_brokenAfterSplice_X1_gap : GoodIn wsX1_brokenAfterSplice (wsV RX1 126 RX1 yX1_gap wsX1_gap) := goodIn_app (goodIn_of _ (by decide +kernel)) ggX1_brokenAfterSplice_X1_gap
set_option maxRecDepth 20000 in
theorem ggX1_brokenAfterSplice_X1_from : GoodIn wsX1_brokenAfterSplice wsX1_from := goodIn_r _ [24, 25, 26, 27, 5, 28, 17, 78, 79, 80, 81, 82, 83, 84] (by decide +kernel) (by decide +kernel)
set_option maxRecDepth 20000 in
theorem gX1_brokenAfterSplice_X1_from : GoodIn wsX1_brokenAfterSplice (wsV RX1 54 RX1 yX1_from wsX1_from) := goodIn_app (goodIn_of _ (by decide +kernel)) ggX1_brokenAfterSplice_X1_from
set_option maxRecDepth 20000 in
theorem ggX1_brokenAfterSplice_X1_fail : GoodIn wsX1_brokenAfterSplice wsX1_fail := goodIn_r _ [32, 7, 78, 79, 80, 81, 82, 83, 84] (by decide +kernel) (by decide +kernel)
set_option maxRecDepth 20000 in
theorem gX1_brokenAfterSplice_X1_fail : GoodIn wsX1_brokenAfterSplice (wsV RX1 86 RX1 yX1_fail wsX1_fail) := goodIn_app (goodIn_of _ (by decide +kernel)) ggX1_brokenAfterSplice_X1_fail
set_option maxRecDepth 20000 in
theorem ggX1_brokenAfterSplice_X1_spliced : GoodIn wsX1_brokenAfterSplice wsX1_spliced := goodIn_r _ [36, 17, 21, 22, 23, 5, 24, 25, 26, 27, 28, 37, 38, 39, 40, 41, 42, 43, 44, 45, 46, 47, 48, 49, 50, 51, 52, 53, 54, 55, 56, 57, 58, 59, 60, 61, 62, 63, 64, 65, 66, 67, 68, 69, 12, 13, 14, 15, 16, 70, 71, 72, 73, 1, 74, 75, 76, 77, 78, 79, 80, 81, 82, 83, 84] (by decide +kernel) (by decide +kernel)
set_option maxRecDepth 20000 in
theorem gX1_brokenAfterSplice_X1_spliced : GoodIn wsX1_brokenAfterSplice (wsV RX1 153 RX1 yX1_spliced wsX1_spliced) := goodIn_app (goodIn_of _ (by decide +kernel)) ggX1_brokenAfterSplice_X1_spliced
theorem dX1_brokenAfterSplice_0 : decode cX1_brokenAfterSplice 0 = .ok (.aload_n 0, 1) := by decide +kernel
theorem dX1_brokenAfterSplice_1 : decode cX1_brokenAfterSplice 1 = .ok (.iload_n 1, 1) := by decide +kernel
theorem dX1_brokenAfterSplice_2 : decode cX1_brokenAfterSplice 2 = .ok (.invokevirtual 126, 3) := by decide +kernel
theorem dX1_brokenAfterSplice_5 : decode cX1_brokenAfterSplice 5 = .ok (.ifCond .ne 5, 3) := by decide +kernel
theorem dX1_brokenAfterSplice_8 : decode cX1_brokenAfterSplice 8 = .ok (.iconst 0, 1) := by decide +kernel
theorem dX1_brokenAfterSplice_9 : decode cX1_brokenAfterSplice 9 = .ok (.ireturn, 1) := by decide +kernel
theorem dX1_brokenAfterSplice_10 : decode cX1_brokenAfterSplice 10 = .ok (.aload_n 0, 1) := by decide +kernel
theorem dX1_brokenAfterSplice_11 : decode cX1_brokenAfterSplice 11 = .ok (.getfield 20, 3) := by decide +kernel
theorem dX1_brokenAfterSplice_14 : decode cX1_brokenAfterSplice 14 = .ok (.aload_n 0, 1) := by decide +kernel
theorem dX1_brokenAfterSplice_15 : decode cX1_brokenAfterSplice 15 = .ok (.iload_n 1, 1) := by decide +kernel
theorem dX1_brokenAfterSplice_16 : decode cX1_brokenAfterSplice 16 = .ok (.invokevirtual 54, 3) := by decide +kernel
theorem dX1_brokenAfterSplice_19 : decode cX1_brokenAfterSplice 19 = .ok (.baload, 1) := by decide +kernel
theorem dX1_brokenAfterSplice_20 : decode cX1_brokenAfterSplice 20 = .ok (.ifCond .eq 11, 3) := by decide +kernel
theorem dX1_brokenAfterSplice_23 : decode cX1_brokenAfterSplice 23 = .ok (.aload_n 0, 1) := by decide +kernel
theorem dX1_brokenAfterSplice_24 : decode cX1_brokenAfterSplice 24 = .ok (.iconst 2, 1) := by decide +kernel
theorem dX1_brokenAfterSplice_25 : decode cX1_brokenAfterSplice 25 = .ok (.invokevirtual 86, 3) := by decide +kernel
theorem dX1_brokenAfterSplice_28 : decode cX1_brokenAfterSplice 28 = .ok (.goto 8, 3) := by decide +kernel
theorem dX1_brokenAfterSplice_31 : decode cX1_brokenAfterSplice 31 = .ok (.aload_n 0, 1) := by decide +kernel
theorem dX1_brokenAfterSplice_32 : decode cX1_brokenAfterSplice 32 = .ok (.iload_n 1, 1) := by decide +kernel
theorem dX1_brokenAfterSplice_33 : decode cX1_brokenAfterSplice 33 = .ok (.invokevirtual 153, 3) := by decide +kernel
theorem dX1_brokenAfterSplice_36 : decode cX1_brokenAfterSplice 36 = .ok (.ireturn, 1) := by decide +kernel
set_option maxRecDepth 20000 in
theorem ggX1_best_X1_allBroken : GoodIn wsX1_best wsX1_allBroken := goodIn_r _ [6, 7, 8, 9, 5, 10, 11, 12, 13, 14, 15, 16, 1, 17, 18, 19, 20, 21, 22, 23, 24, 25, 26, 27, 28, 29, 30, 31, 32, 33, 34, 35, 36, 37, 38, 39, 40, 41, 42, 43, 44, 45, 46, 47, 48, 49, 50, 51, 52, 53, 54, 62, 63, 64, 65, 66, 67, 68] (by decide +kernel) (by decide +kernel)
set_option maxRecDepth 20000 in
theorem gX1_best_X1_allBroken : GoodIn wsX1_best (wsV RX1 108 RX1 yX1_allBroken wsX1_allBroken) := goodIn_app (goodIn_of _ (by decide +kernel)) ggX1_best_X1_allBroken
set_option maxRecDepth 20000 in
theorem ggX1_best_X1_many : GoodIn wsX1_best wsX1_many := goodIn_r _ [10, 11, 12, 62, 63, 64, 65, 66, 67, 68] (by decide +kernel) (by decide +kernel)
set_option maxRecDepth 20000 in
theorem gX1_best_X1_many : GoodIn wsX1_best (wsV RX1 34 RX1 yX1_many wsX1_many) := goodIn_app (goodIn_of _ (by decide +kernel)) ggX1_best_X1_many
set_option maxRecDepth 20000 in
theorem ggX1_best_X1_from : GoodIn wsX1_best wsX1_from := goodIn_r _ [20, 21, 22, 23, 5, 24, 12, 62, 63, 64, 65, 66, 67, 68] (by decide +kernel) (by decide +kernel)
set_option maxRecDepth 20000 in
theorem gX1_best_X1_from : GoodIn wsX1_best (wsV RX1 54 RX1 yX1_from wsX1_from) := goodIn_app (goodIn_of _ (by decide +kernel)) ggX1_best_X1_from
set_option maxRecDepth 20000 in
theorem ggX1_best_X1_spliced : GoodIn wsX1_best wsX1_spliced := goodIn_r _ [58, 12, 17, 18, 19, 5, 20, 21, 22, 23, 24, 29, 30, 31, 32, 59, 60, 61, 33, 34, 35, 36, 37, 38, 39, 40, 41, 42, 43, 44, 45, 46, 47, 48, 49, 50, 51, 52, 53, 54, 2, 3, 4, 6, 7, 8, 9, 10, 11, 13, 14, 15, 16, 1, 25, 26, 27, 28, 62, 63, 64, 65, 66, 67, 68] (by decide +kernel) (by decide +kernel)
set_option maxRecDepth 20000 in
theorem gX1_best_X1_spliced : GoodIn wsX1_best (wsV RX1 153 RX1 yX1_spliced wsX1_spliced) := goodIn_app (goodIn_of _ (by decide +kernel)) ggX1_best_X1_spliced
theorem dX1_best_0 : decode cX1_best 0 = .ok (.iconst (-1), 1) := by decide +kernel
theorem dX1_best_1 : decode cX1_best 1 = .ok (.istore_n 1, 1) := by decide +kernel
theorem dX1_best_2 : decode cX1_best 2 = .ok (.aload_n 0, 1) := by decide +kernel
theorem dX1_best_3 : decode cX1_best 3 = .ok (.invokevirtual 108, 3) := by decide +kernel
theorem dX1_best_6 : decode cX1_best 6 = .ok (.istore_n 2, 1) := by decide +kernel
theorem dX1_best_7 : decode cX1_best 7 = .ok (.iconst 0, 1) := by decide +kernel
theorem dX1_best_8 : decode cX1_best 8 = .ok (.istore_n 3, 1) := by decide +kernel
theorem dX1_best_9 : decode cX1_best 9 = .ok (.iload_n 3, 1) := by decide +kernel
theorem dX1_best_10 : decode cX1_best 10 = .ok (.aload_n 0, 1) := by decide +kernel
theorem dX1_best_11 : decode cX1_best 11 = .ok (.invokevirtual 34, 3) := by decide +kernel
theorem dX1_best_14 : decode cX1_best 14 = .ok (.iconst 1, 1) := by decide +kernel
theorem dX1_best_15 : decode cX1_best 15 = .ok (.isub, 1) := by decide +kernel
theorem dX1_best_16 : decode cX1_best 16 = .ok (.if_icmp .ge 42, 3) := by decide +kernel
theorem dX1_best_19 : decode cX1_best 19 = .ok (.aload_n 0, 1) := by decide +kernel
theorem dX1_best_20 : decode cX1_best 20 = .ok (.getfield 20, 3) := by decide +kernel
theorem dX1_best_23 : decode cX1_best 23 = .ok (.aload_n 0, 1) := by decide +kernel
theorem dX1_best_24 : decode cX1_best 24 = .ok (.iload_n 3, 1) := by decide +kernel
theorem dX1_best_25 : decode cX1_best 25 = .ok (.invokevirtual 54, 3) := by decide +kernel
theorem dX1_best_28 : decode cX1_best 28 = .ok (.baload, 1) := by decide +kernel
theorem dX1_best_29 : decode cX1_best 29 = .ok (.ifCond .ne 23, 3) := by decide +kernel
theorem dX1_best_32 : decode cX1_best 32 = .ok (.aload_n 0, 1) := by decide +kernel
theorem dX1_best_33 : decode cX1_best 33 = .ok (.iload_n 3, 1) := by decide +kernel
theorem dX1_best_34 : decode cX1_best 34 = .ok (.invokevirtual 153, 3) := by decide +kernel
theorem dX1_best_37 : decode cX1_best 37 = .ok (.iload_n 2, 1) := by decide +kernel
theorem dX1_best_38 : decode cX1_best 38 = .ok (.if_icmp .lt 6, 3) := by decide +kernel
theorem dX1_best_41 : decode cX1_best 41 = .ok (.goto 11, 3) := by decide +kernel
theorem dX1_best_44 : decode cX1_best 44 = .ok (.iload_n 3, 1) := by decide +kernel
theorem dX1_best_45 : decode cX1_best 45 = .ok (.istore_n 1, 1) := by decide +kernel
theorem dX1_best_46 : decode cX1_best 46 = .ok (.aload_n 0, 1) := by decide +kernel
theorem dX1_best_47 : decode cX1_best 47 = .ok (.iload_n 3, 1) := by decide +kernel
theorem dX1_best_48 : decode cX1_best 48 = .ok (.invokevirtual 153, 3) := by decide +kernel
theorem dX1_best_51 : decode cX1_best 51 = .ok (.istore_n 2, 1) := by decide +kernel
theorem dX1_best_52 : decode cX1_best 52 = .ok (.iinc 3 1, 3) := by decide +kernel
theorem dX1_best_55 : decode cX1_best 55 = .ok (.goto (-46), 3) := by decide +kernel
theorem dX1_best_58 : decode cX1_best 58 = .ok (.iload_n 1, 1) := by decide +kernel
theorem dX1_best_59 : decode cX1_best 59 = .ok (.ireturn, 1) := by decide +kernel
set_option maxRecDepth 20000 in
theorem ggX1_bestSplice_X1_best : GoodIn wsX1_bestSplice wsX1_best := goodIn_r _ [5, 6, 7, 8, 9, 4, 10, 11, 12, 13, 14, 15, 16, 17, 18, 19, 20, 21, 22, 23, 24, 25, 26, 27, 28, 29, 30, 31, 32, 33, 34, 35, 36, 37, 38, 39, 40, 41, 42, 43, 44, 45, 46, 47, 48, 49, 50, 51, 52, 53, 54, 55, 56, 57, 58, 59, 60, 61, 62, 63, 64, 65, 71, 72, 73, 74, 75, 76, 77] (by decide +kernel) (by decide +kernel)
set_option maxRecDepth 20000 in
theorem gX1_bestSplice_X1_best : GoodIn wsX1_bestSplice (wsV RX1 156 RX1 yX1_best wsX1_best) := goodIn_app (goodIn_of _ (by decide +kernel)) ggX1_bestSplice_X1_best
set_option maxRecDepth 20000 in
theorem ggX1_bestSplice_X1_told : GoodIn wsX1_bestSplice wsX1_told := goodIn_r _ [69, 70, 71, 72, 73, 74, 75, 76, 77] (by decide +kernel) (by decide +kernel)
set_option maxRecDepth 20000 in
theorem gX1_bestSplice_X1_told : GoodIn wsX1_bestSplice (wsV RX1 120 RX1 yX1_told wsX1_told) := goodIn_app (goodIn_of _ (by decide +kernel)) ggX1_bestSplice_X1_told
theorem dX1_bestSplice_0 : decode cX1_bestSplice 0 = .ok (.aload_n 0, 1) := by decide +kernel
theorem dX1_bestSplice_1 : decode cX1_bestSplice 1 = .ok (.aload_n 0, 1) := by decide +kernel
theorem dX1_bestSplice_2 : decode cX1_bestSplice 2 = .ok (.invokevirtual 156, 3) := by decide +kernel
theorem dX1_bestSplice_5 : decode cX1_bestSplice 5 = .ok (.invokevirtual 120, 3) := by decide +kernel
theorem dX1_bestSplice_8 : decode cX1_bestSplice 8 = .ok (.ireturn, 1) := by decide +kernel
set_option maxRecDepth 20000 in
theorem ggX1_wouldBreak_X1_isSpeaker : GoodIn wsX1_wouldBreak wsX1_isSpeaker := goodIn_r _ [8, 9, 10, 7, 11] (by decide +kernel) (by decide +kernel)
set_option maxRecDepth 20000 in
theorem gX1_wouldBreak_X1_isSpeaker : GoodIn wsX1_wouldBreak (va_wsS RX1 83 yX1_isSpeaker wsX1_isSpeaker) := goodIn_app (goodIn_of _ (by decide +kernel)) ggX1_wouldBreak_X1_isSpeaker
set_option maxRecDepth 20000 in
theorem ggX1_wouldBreak_X1_isIn : GoodIn wsX1_wouldBreak wsX1_isIn := goodIn_r _ [11] (by decide +kernel) (by decide +kernel)
set_option maxRecDepth 20000 in
theorem gX1_wouldBreak_X1_isIn : GoodIn wsX1_wouldBreak (va_wsS RX1 27 yX1_isIn wsX1_isIn) := goodIn_app (goodIn_of _ (by decide +kernel)) ggX1_wouldBreak_X1_isIn
set_option maxRecDepth 20000 in
theorem ggX1_wouldBreak_X1_many : GoodIn wsX1_wouldBreak wsX1_many := goodIn_r _ [15, 3, 2, 33, 34, 35, 36, 37, 38, 39] (by decide +kernel) (by decide +kernel)
set_option maxRecDepth 20000 in
theorem gX1_wouldBreak_X1_many : GoodIn wsX1_wouldBreak (wsV RX1 34 RX1 yX1_many wsX1_many) := goodIn_app (goodIn_of _ (by decide +kernel)) ggX1_wouldBreak_X1_many
set_option maxRecDepth 20000 in
theorem ggX1_wouldBreak_X1_place : GoodIn wsX1_wouldBreak wsX1_place := goodIn_r _ [19, 2, 33, 34, 35, 36, 37, 38, 39] (by decide +kernel) (by decide +kernel)
set_option maxRecDepth 20000 in
theorem gX1_wouldBreak_X1_place : GoodIn wsX1_wouldBreak (wsV RX1 48 RX1 yX1_place wsX1_place) := goodIn_app (goodIn_of _ (by decide +kernel)) ggX1_wouldBreak_X1_place
set_option maxRecDepth 20000 in
theorem ggX1_wouldBreak_X1_apart : GoodIn wsX1_wouldBreak wsX1_apart := goodIn_r _ [22, 23, 24, 25, 26, 27, 28, 29] (by decide +kernel) (by decide +kernel)
set_option maxRecDepth 20000 in
theorem gX1_wouldBreak_X1_apart : GoodIn wsX1_wouldBreak (va_wsS RX1 57 yX1_apart wsX1_apart) := goodIn_app (goodIn_of _ (by decide +kernel)) ggX1_wouldBreak_X1_apart
set_option maxRecDepth 20000 in
theorem ggX1_wouldBreak_X1_isPoliteOr : GoodIn wsX1_wouldBreak wsX1_isPoliteOr := goodIn_r _ [32] (by decide +kernel) (by decide +kernel)
set_option maxRecDepth 20000 in
theorem gX1_wouldBreak_X1_isPoliteOr : GoodIn wsX1_wouldBreak (va_wsS RX1 70 yX1_isPoliteOr wsX1_isPoliteOr) := goodIn_app (goodIn_of _ (by decide +kernel)) ggX1_wouldBreak_X1_isPoliteOr
theorem dX1_wouldBreak_0 : decode cX1_wouldBreak 0 = .ok (.aload_n 0, 1) := by decide +kernel
theorem dX1_wouldBreak_1 : decode cX1_wouldBreak 1 = .ok (.iload_n 1, 1) := by decide +kernel
theorem dX1_wouldBreak_2 : decode cX1_wouldBreak 2 = .ok (.invokestatic 83, 3) := by decide +kernel
theorem dX1_wouldBreak_5 : decode cX1_wouldBreak 5 = .ok (.ifCond .ne 7, 3) := by decide +kernel
theorem dX1_wouldBreak_8 : decode cX1_wouldBreak 8 = .ok (.iconst 1, 1) := by decide +kernel
theorem dX1_wouldBreak_9 : decode cX1_wouldBreak 9 = .ok (.goto 18, 3) := by decide +kernel
theorem dX1_wouldBreak_12 : decode cX1_wouldBreak 12 = .ok (.iload_n 2, 1) := by decide +kernel
theorem dX1_wouldBreak_13 : decode cX1_wouldBreak 13 = .ok (.iconst 0, 1) := by decide +kernel
theorem dX1_wouldBreak_14 : decode cX1_wouldBreak 14 = .ok (.bipush 9, 2) := by decide +kernel
theorem dX1_wouldBreak_16 : decode cX1_wouldBreak 16 = .ok (.invokestatic 27, 3) := by decide +kernel
theorem dX1_wouldBreak_19 : decode cX1_wouldBreak 19 = .ok (.ifCond .eq 7, 3) := by decide +kernel
theorem dX1_wouldBreak_22 : decode cX1_wouldBreak 22 = .ok (.iconst 0, 1) := by decide +kernel
theorem dX1_wouldBreak_23 : decode cX1_wouldBreak 23 = .ok (.goto 4, 3) := by decide +kernel
theorem dX1_wouldBreak_26 : decode cX1_wouldBreak 26 = .ok (.iconst 2, 1) := by decide +kernel
theorem dX1_wouldBreak_27 : decode cX1_wouldBreak 27 = .ok (.putfield 24, 3) := by decide +kernel
theorem dX1_wouldBreak_30 : decode cX1_wouldBreak 30 = .ok (.aload_n 0, 1) := by decide +kernel
theorem dX1_wouldBreak_31 : decode cX1_wouldBreak 31 = .ok (.getfield 24, 3) := by decide +kernel
theorem dX1_wouldBreak_34 : decode cX1_wouldBreak 34 = .ok (.ifCond .gt 10, 3) := by decide +kernel
theorem dX1_wouldBreak_37 : decode cX1_wouldBreak 37 = .ok (.aload_n 0, 1) := by decide +kernel
theorem dX1_wouldBreak_38 : decode cX1_wouldBreak 38 = .ok (.invokevirtual 34, 3) := by decide +kernel
theorem dX1_wouldBreak_41 : decode cX1_wouldBreak 41 = .ok (.ifCond .ne 5, 3) := by decide +kernel
theorem dX1_wouldBreak_44 : decode cX1_wouldBreak 44 = .ok (.iconst 0, 1) := by decide +kernel
theorem dX1_wouldBreak_45 : decode cX1_wouldBreak 45 = .ok (.ireturn, 1) := by decide +kernel
theorem dX1_wouldBreak_46 : decode cX1_wouldBreak 46 = .ok (.aload_n 0, 1) := by decide +kernel
theorem dX1_wouldBreak_47 : decode cX1_wouldBreak 47 = .ok (.aload_n 0, 1) := by decide +kernel
theorem dX1_wouldBreak_48 : decode cX1_wouldBreak 48 = .ok (.invokevirtual 34, 3) := by decide +kernel
theorem dX1_wouldBreak_51 : decode cX1_wouldBreak 51 = .ok (.iconst 1, 1) := by decide +kernel
theorem dX1_wouldBreak_52 : decode cX1_wouldBreak 52 = .ok (.isub, 1) := by decide +kernel
theorem dX1_wouldBreak_53 : decode cX1_wouldBreak 53 = .ok (.invokevirtual 48, 3) := by decide +kernel
theorem dX1_wouldBreak_56 : decode cX1_wouldBreak 56 = .ok (.istore_n 3, 1) := by decide +kernel
theorem dX1_wouldBreak_57 : decode cX1_wouldBreak 57 = .ok (.aload_n 0, 1) := by decide +kernel
theorem dX1_wouldBreak_58 : decode cX1_wouldBreak 58 = .ok (.getfield 13, 3) := by decide +kernel
theorem dX1_wouldBreak_61 : decode cX1_wouldBreak 61 = .ok (.iload_n 3, 1) := by decide +kernel
theorem dX1_wouldBreak_62 : decode cX1_wouldBreak 62 = .ok (.iaload, 1) := by decide +kernel
theorem dX1_wouldBreak_63 : decode cX1_wouldBreak 63 = .ok (.iload_n 2, 1) := by decide +kernel
theorem dX1_wouldBreak_64 : decode cX1_wouldBreak 64 = .ok (.invokestatic 57, 3) := by decide +kernel
theorem dX1_wouldBreak_67 : decode cX1_wouldBreak 67 = .ok (.aload_n 0, 1) := by decide +kernel
theorem dX1_wouldBreak_68 : decode cX1_wouldBreak 68 = .ok (.getfield 31, 3) := by decide +kernel
theorem dX1_wouldBreak_71 : decode cX1_wouldBreak 71 = .ok (.iadd, 1) := by decide +kernel
theorem dX1_wouldBreak_72 : decode cX1_wouldBreak 72 = .ok (.iconst 1, 1) := by decide +kernel
theorem dX1_wouldBreak_73 : decode cX1_wouldBreak 73 = .ok (.isub, 1) := by decide +kernel
theorem dX1_wouldBreak_74 : decode cX1_wouldBreak 74 = .ok (.iload_n 3, 1) := by decide +kernel
theorem dX1_wouldBreak_75 : decode cX1_wouldBreak 75 = .ok (.isub, 1) := by decide +kernel
theorem dX1_wouldBreak_76 : decode cX1_wouldBreak 76 = .ok (.aload_n 0, 1) := by decide +kernel
theorem dX1_wouldBreak_77 : decode cX1_wouldBreak 77 = .ok (.getfield 17, 3) := by decide +kernel
theorem dX1_wouldBreak_80 : decode cX1_wouldBreak 80 = .ok (.iload_n 3, 1) := by decide +kernel
theorem dX1_wouldBreak_81 : decode cX1_wouldBreak 81 = .ok (.iaload, 1) := by decide +kernel
theorem dX1_wouldBreak_82 : decode cX1_wouldBreak 82 = .ok (.iload_n 1, 1) := by decide +kernel
theorem dX1_wouldBreak_83 : decode cX1_wouldBreak 83 = .ok (.if_icmp .ne 7, 3) := by decide +kernel
theorem dX1_wouldBreak_86 : decode cX1_wouldBreak 86 = .ok (.iconst 1, 1) := by decide +kernel
theorem dX1_wouldBreak_87 : decode cX1_wouldBreak 87 = .ok (.goto 4, 3) := by decide +kernel
theorem dX1_wouldBreak_90 : decode cX1_wouldBreak 90 = .ok (.iconst 0, 1) := by decide +kernel
theorem dX1_wouldBreak_91 : decode cX1_wouldBreak 91 = .ok (.invokestatic 70, 3) := by decide +kernel
theorem dX1_wouldBreak_94 : decode cX1_wouldBreak 94 = .ok (.ifCond .ne 7, 3) := by decide +kernel
theorem dX1_wouldBreak_97 : decode cX1_wouldBreak 97 = .ok (.iconst 1, 1) := by decide +kernel
theorem dX1_wouldBreak_98 : decode cX1_wouldBreak 98 = .ok (.goto 4, 3) := by decide +kernel
theorem dX1_wouldBreak_101 : decode cX1_wouldBreak 101 = .ok (.iconst 0, 1) := by decide +kernel
theorem dX1_wouldBreak_102 : decode cX1_wouldBreak 102 = .ok (.ireturn, 1) := by decide +kernel
set_option maxRecDepth 20000 in
theorem ggX1_meanStrain_X1_many : GoodIn wsX1_meanStrain wsX1_many := goodIn_r _ [6, 7, 8, 39, 40, 41, 42, 43, 44, 45] (by decide +kernel) (by decide +kernel)
set_option maxRecDepth 20000 in
theorem gX1_meanStrain_X1_many : GoodIn wsX1_meanStrain (wsV RX1 34 RX1 yX1_many wsX1_many) := goodIn_app (goodIn_of _ (by decide +kernel)) ggX1_meanStrain_X1_many
set_option maxRecDepth 20000 in
theorem ggX1_meanStrain_X1_strain : GoodIn wsX1_meanStrain wsX1_strain := goodIn_r _ [12, 8, 13, 14, 15, 5, 16, 17, 18, 19, 20, 21, 22, 23, 24, 25, 26, 27, 28, 29, 30, 31, 32, 33, 34, 35, 36, 37, 38, 39, 40, 41, 42, 43, 44, 45] (by decide +kernel) (by decide +kernel)
set_option maxRecDepth 20000 in
theorem gX1_meanStrain_X1_strain : GoodIn wsX1_meanStrain (wsV RX1 63 RX1 yX1_strain wsX1_strain) := goodIn_app (goodIn_of _ (by decide +kernel)) ggX1_meanStrain_X1_strain
theorem dX1_meanStrain_0 : decode cX1_meanStrain 0 = .ok (.aload_n 0, 1) := by decide +kernel
theorem dX1_meanStrain_1 : decode cX1_meanStrain 1 = .ok (.iconst 0, 1) := by decide +kernel
theorem dX1_meanStrain_2 : decode cX1_meanStrain 2 = .ok (.putfield 24, 3) := by decide +kernel
theorem dX1_meanStrain_5 : decode cX1_meanStrain 5 = .ok (.aload_n 0, 1) := by decide +kernel
theorem dX1_meanStrain_6 : decode cX1_meanStrain 6 = .ok (.invokevirtual 34, 3) := by decide +kernel
theorem dX1_meanStrain_9 : decode cX1_meanStrain 9 = .ok (.iconst 1, 1) := by decide +kernel
theorem dX1_meanStrain_10 : decode cX1_meanStrain 10 = .ok (.isub, 1) := by decide +kernel
theorem dX1_meanStrain_11 : decode cX1_meanStrain 11 = .ok (.istore_n 1, 1) := by decide +kernel
theorem dX1_meanStrain_12 : decode cX1_meanStrain 12 = .ok (.iconst 0, 1) := by decide +kernel
theorem dX1_meanStrain_13 : decode cX1_meanStrain 13 = .ok (.istore_n 2, 1) := by decide +kernel
theorem dX1_meanStrain_14 : decode cX1_meanStrain 14 = .ok (.iconst 0, 1) := by decide +kernel
theorem dX1_meanStrain_15 : decode cX1_meanStrain 15 = .ok (.istore_n 3, 1) := by decide +kernel
theorem dX1_meanStrain_16 : decode cX1_meanStrain 16 = .ok (.iload_n 3, 1) := by decide +kernel
theorem dX1_meanStrain_17 : decode cX1_meanStrain 17 = .ok (.iload_n 1, 1) := by decide +kernel
theorem dX1_meanStrain_18 : decode cX1_meanStrain 18 = .ok (.if_icmp .ge 17, 3) := by decide +kernel
theorem dX1_meanStrain_21 : decode cX1_meanStrain 21 = .ok (.iload_n 2, 1) := by decide +kernel
theorem dX1_meanStrain_22 : decode cX1_meanStrain 22 = .ok (.aload_n 0, 1) := by decide +kernel
theorem dX1_meanStrain_23 : decode cX1_meanStrain 23 = .ok (.iload_n 3, 1) := by decide +kernel
theorem dX1_meanStrain_24 : decode cX1_meanStrain 24 = .ok (.invokevirtual 63, 3) := by decide +kernel
theorem dX1_meanStrain_27 : decode cX1_meanStrain 27 = .ok (.iadd, 1) := by decide +kernel
theorem dX1_meanStrain_28 : decode cX1_meanStrain 28 = .ok (.istore_n 2, 1) := by decide +kernel
theorem dX1_meanStrain_29 : decode cX1_meanStrain 29 = .ok (.iinc 3 1, 3) := by decide +kernel
theorem dX1_meanStrain_32 : decode cX1_meanStrain 32 = .ok (.goto (-16), 3) := by decide +kernel
theorem dX1_meanStrain_35 : decode cX1_meanStrain 35 = .ok (.iload_n 1, 1) := by decide +kernel
theorem dX1_meanStrain_36 : decode cX1_meanStrain 36 = .ok (.iconst 1, 1) := by decide +kernel
theorem dX1_meanStrain_37 : decode cX1_meanStrain 37 = .ok (.if_icmp .ge 7, 3) := by decide +kernel
theorem dX1_meanStrain_40 : decode cX1_meanStrain 40 = .ok (.dconst 0, 1) := by decide +kernel
theorem dX1_meanStrain_41 : decode cX1_meanStrain 41 = .ok (.goto 8, 3) := by decide +kernel
theorem dX1_meanStrain_44 : decode cX1_meanStrain 44 = .ok (.iload_n 2, 1) := by decide +kernel
theorem dX1_meanStrain_45 : decode cX1_meanStrain 45 = .ok (.i2d, 1) := by decide +kernel
theorem dX1_meanStrain_46 : decode cX1_meanStrain 46 = .ok (.iload_n 1, 1) := by decide +kernel
theorem dX1_meanStrain_47 : decode cX1_meanStrain 47 = .ok (.i2d, 1) := by decide +kernel
theorem dX1_meanStrain_48 : decode cX1_meanStrain 48 = .ok (.ddiv, 1) := by decide +kernel
theorem dX1_meanStrain_49 : decode cX1_meanStrain 49 = .ok (.dreturn, 1) := by decide +kernel
set_option maxRecDepth 20000 in
theorem ggX1_digest_X1_many : GoodIn wsX1_digest wsX1_many := goodIn_r _ [15, 3, 8, 104, 105, 106, 107, 108, 109, 110] (by decide +kernel) (by decide +kernel)
set_option maxRecDepth 20000 in
theorem gX1_digest_X1_many : GoodIn wsX1_digest (wsV RX1 34 RX1 yX1_many wsX1_many) := goodIn_app (goodIn_of _ (by decide +kernel)) ggX1_digest_X1_many
set_option maxRecDepth 20000 in
theorem ggX1_digest_X1_allBroken : GoodIn wsX1_digest wsX1_allBroken := goodIn_r _ [19, 11, 12, 13, 14, 15, 3, 8, 20, 21, 22, 23, 10, 24, 25, 26, 27, 28, 29, 30, 31, 32, 33, 34, 35, 36, 37, 38, 39, 40, 41, 42, 43, 44, 45, 46, 47, 48, 49, 50, 51, 52, 53, 54, 55, 56, 57, 9, 58, 59, 60, 104, 105, 106, 107, 108, 109, 110] (by decide +kernel) (by decide +kernel)
set_option maxRecDepth 20000 in
theorem gX1_digest_X1_allBroken : GoodIn wsX1_digest (wsV RX1 108 RX1 yX1_allBroken wsX1_allBroken) := goodIn_app (goodIn_of _ (by decide +kernel)) ggX1_digest_X1_allBroken
set_option maxRecDepth 20000 in
theorem ggX1_digest_X1_allPolite : GoodIn wsX1_digest wsX1_allPolite := goodIn_r _ [64, 11, 12, 13, 14, 15, 3, 8, 20, 21, 22, 23, 10, 24, 25, 26, 27, 28, 29, 30, 31, 32, 33, 34, 35, 36, 37, 38, 39, 40, 41, 42, 43, 44, 45, 46, 47, 48, 49, 50, 51, 52, 53, 54, 55, 56, 57, 9, 58, 59, 60, 65, 66, 67, 68, 104, 105, 106, 107, 108, 109, 110] (by decide +kernel) (by decide +kernel)
set_option maxRecDepth 20000 in
theorem gX1_digest_X1_allPolite : GoodIn wsX1_digest (wsV RX1 129 RX1 yX1_allPolite wsX1_allPolite) := goodIn_app (goodIn_of _ (by decide +kernel)) ggX1_digest_X1_allPolite
set_option maxRecDepth 20000 in
theorem ggX1_digest_X1_threadsNow : GoodIn wsX1_digest wsX1_threadsNow := goodIn_r _ [72, 11, 12, 13, 14, 15, 3, 8, 16, 17, 18, 19, 20, 21, 22, 23, 10, 24, 25, 26, 27, 28, 29, 30, 31, 32, 33, 34, 35, 36, 37, 38, 39, 40, 41, 42, 43, 44, 45, 46, 47, 48, 49, 50, 51, 52, 53, 54, 55, 56, 57, 9, 58, 59, 60, 104, 105, 106, 107, 108, 109, 110] (by decide +kernel) (by decide +kernel)
set_option maxRecDepth 20000 in
theorem gX1_digest_X1_threadsNow : GoodIn wsX1_digest (wsV RX1 114 RX1 yX1_threadsNow wsX1_threadsNow) := goodIn_app (goodIn_of _ (by decide +kernel)) ggX1_digest_X1_threadsNow
set_option maxRecDepth 20000 in
theorem ggX1_digest_X1_longest : GoodIn wsX1_digest wsX1_longest := goodIn_r _ [76, 69, 70, 71, 14, 72, 11, 12, 13, 15, 3, 8, 16, 17, 18, 19, 20, 21, 22, 23, 10, 24, 25, 26, 27, 28, 29, 30, 31, 32, 33, 34, 35, 36, 37, 38, 39, 40, 41, 42, 43, 44, 45, 46, 47, 48, 49, 50, 51, 52, 53, 54, 55, 56, 57, 9, 58, 59, 60, 77, 78, 79, 80, 81, 82, 83, 84, 104, 105, 106, 107, 108, 109, 110] (by decide +kernel) (by decide +kernel)
set_option maxRecDepth 20000 in
theorem gX1_digest_X1_longest : GoodIn wsX1_digest (wsV RX1 141 RX1 yX1_longest wsX1_longest) := goodIn_app (goodIn_of _ (by decide +kernel)) ggX1_digest_X1_longest
set_option maxRecDepth 20000 in
theorem ggX1_digest_X1_mendsAll : GoodIn wsX1_digest wsX1_mendsAll := goodIn_r _ [88, 11, 12, 13, 14, 15, 3, 8, 89, 90, 91, 92, 47, 48, 45, 49, 20, 21, 22, 23, 10, 24, 25, 26, 27, 28, 29, 30, 31, 32, 33, 34, 35, 36, 37, 38, 39, 40, 41, 42, 43, 44, 46, 50, 51, 52, 53, 54, 55, 56, 57, 9, 58, 59, 60, 104, 105, 106, 107, 108, 109, 110] (by decide +kernel) (by decide +kernel)
set_option maxRecDepth 20000 in
theorem gX1_digest_X1_mendsAll : GoodIn wsX1_digest (wsV RX1 150 RX1 yX1_mendsAll wsX1_mendsAll) := goodIn_app (goodIn_of _ (by decide +kernel)) ggX1_digest_X1_mendsAll
set_option maxRecDepth 20000 in
theorem ggX1_digest_X1_best : GoodIn wsX1_digest wsX1_best := goodIn_r _ [96, 10, 16, 17, 18, 14, 19, 11, 12, 13, 15, 3, 8, 20, 21, 22, 23, 24, 25, 26, 27, 28, 29, 30, 31, 32, 33, 34, 35, 36, 37, 38, 39, 40, 41, 42, 43, 44, 45, 46, 47, 48, 49, 50, 51, 52, 53, 54, 55, 56, 57, 9, 58, 59, 60, 97, 98, 99, 100, 101, 102, 103, 104, 105, 106, 107, 108, 109, 110] (by decide +kernel) (by decide +kernel)
set_option maxRecDepth 20000 in
theorem gX1_digest_X1_best : GoodIn wsX1_digest (wsV RX1 156 RX1 yX1_best wsX1_best) := goodIn_app (goodIn_of _ (by decide +kernel)) ggX1_digest_X1_best
set_option maxRecDepth 20000 in
theorem ggX1_digest_X1_place : GoodIn wsX1_digest wsX1_place := goodIn_r _ [31, 8, 104, 105, 106, 107, 108, 109, 110] (by decide +kernel) (by decide +kernel)
set_option maxRecDepth 20000 in
theorem gX1_digest_X1_place : GoodIn wsX1_digest (wsV RX1 48 RX1 yX1_place wsX1_place) := goodIn_app (goodIn_of _ (by decide +kernel)) ggX1_digest_X1_place
set_option maxRecDepth 20000 in
theorem ggX1_digest_X1_thread : GoodIn wsX1_digest wsX1_thread := goodIn_r _ [84, 20, 21, 22, 14, 23, 10, 24, 25, 26, 27, 28, 29, 30, 31, 8, 32, 33, 34, 35, 36, 37, 38, 39, 40, 41, 42, 43, 44, 45, 46, 47, 48, 49, 50, 51, 52, 53, 54, 55, 56, 57, 9, 58, 59, 60, 104, 105, 106, 107, 108, 109, 110] (by decide +kernel) (by decide +kernel)
set_option maxRecDepth 20000 in
theorem gX1_digest_X1_thread : GoodIn wsX1_digest (wsV RX1 132 RX1 yX1_thread wsX1_thread) := goodIn_app (goodIn_of _ (by decide +kernel)) ggX1_digest_X1_thread
set_option maxRecDepth 20000 in
theorem ggX1_digest_X1_coughsOf : GoodIn wsX1_digest wsX1_coughsOf := goodIn_r _ [53, 36, 37, 38, 14, 39, 28, 29, 30, 31, 8, 24, 25, 26, 27, 104, 105, 106, 107, 108, 109, 110] (by decide +kernel) (by decide +kernel)
set_option maxRecDepth 20000 in
theorem gX1_digest_X1_coughsOf : GoodIn wsX1_digest (wsV RX1 60 RX1 yX1_coughsOf wsX1_coughsOf) := goodIn_app (goodIn_of _ (by decide +kernel)) ggX1_digest_X1_coughsOf
set_option maxRecDepth 20000 in
theorem ggX1_digest_X1_strain : GoodIn wsX1_digest wsX1_strain := goodIn_r _ [35, 8, 24, 25, 26, 14, 27, 28, 29, 30, 31, 36, 37, 38, 39, 40, 41, 42, 43, 44, 45, 46, 47, 48, 49, 50, 51, 52, 53, 104, 105, 106, 107, 108, 109, 110] (by decide +kernel) (by decide +kernel)
set_option maxRecDepth 20000 in
theorem gX1_digest_X1_strain : GoodIn wsX1_digest (wsV RX1 63 RX1 yX1_strain wsX1_strain) := goodIn_app (goodIn_of _ (by decide +kernel)) ggX1_digest_X1_strain
set_option maxRecDepth 20000 in
theorem ggX1_digest_X1_from : GoodIn wsX1_digest wsX1_from := goodIn_r _ [27, 28, 29, 30, 14, 31, 8, 104, 105, 106, 107, 108, 109, 110] (by decide +kernel) (by decide +kernel)
set_option maxRecDepth 20000 in
theorem gX1_digest_X1_from : GoodIn wsX1_digest (wsV RX1 54 RX1 yX1_from wsX1_from) := goodIn_app (goodIn_of _ (by decide +kernel)) ggX1_digest_X1_from
set_option maxRecDepth 20000 in
theorem ggX1_digest_X1_broken : GoodIn wsX1_digest wsX1_broken := goodIn_r _ [23, 10, 24, 25, 26, 14, 27, 28, 29, 30, 31, 8, 32, 33, 34, 35, 36, 37, 38, 39, 40, 41, 42, 43, 44, 45, 46, 47, 48, 49, 50, 51, 52, 53, 54, 55, 56, 57, 9, 58, 59, 60, 104, 105, 106, 107, 108, 109, 110] (by decide +kernel) (by decide +kernel)
set_option maxRecDepth 20000 in
theorem gX1_digest_X1_broken : GoodIn wsX1_digest (wsV RX1 74 RX1 yX1_broken wsX1_broken) := goodIn_app (goodIn_of _ (by decide +kernel)) ggX1_digest_X1_broken
set_option maxRecDepth 20000 in
theorem ggX1_digest_X1_mends : GoodIn wsX1_digest wsX1_mends := goodIn_r _ [92, 47, 48, 45, 49, 20, 21, 22, 14, 23, 10, 24, 25, 26, 27, 28, 29, 30, 31, 8, 32, 33, 34, 35, 36, 37, 38, 39, 40, 41, 42, 43, 44, 46, 50, 51, 52, 53, 54, 55, 56, 57, 9, 58, 59, 60, 104, 105, 106, 107, 108, 109, 110] (by decide +kernel) (by decide +kernel)
set_option maxRecDepth 20000 in
theorem gX1_digest_X1_mends : GoodIn wsX1_digest (wsV RX1 147 RX1 yX1_mends wsX1_mends) := goodIn_app (goodIn_of _ (by decide +kernel)) ggX1_digest_X1_mends
theorem dX1_digest_0 : decode cX1_digest 0 = .ok (.aload_n 0, 1) := by decide +kernel
theorem dX1_digest_1 : decode cX1_digest 1 = .ok (.iconst 0, 1) := by decide +kernel
theorem dX1_digest_2 : decode cX1_digest 2 = .ok (.putfield 24, 3) := by decide +kernel
theorem dX1_digest_5 : decode cX1_digest 5 = .ok (.aload_n 0, 1) := by decide +kernel
theorem dX1_digest_6 : decode cX1_digest 6 = .ok (.invokevirtual 34, 3) := by decide +kernel
theorem dX1_digest_9 : decode cX1_digest 9 = .ok (.istore_n 1, 1) := by decide +kernel
theorem dX1_digest_10 : decode cX1_digest 10 = .ok (.bipush 10, 2) := by decide +kernel
theorem dX1_digest_12 : decode cX1_digest 12 = .ok (.newarray .int, 2) := by decide +kernel
theorem dX1_digest_14 : decode cX1_digest 14 = .ok (.dup, 1) := by decide +kernel
theorem dX1_digest_15 : decode cX1_digest 15 = .ok (.iconst 0, 1) := by decide +kernel
theorem dX1_digest_16 : decode cX1_digest 16 = .ok (.aload_n 0, 1) := by decide +kernel
theorem dX1_digest_17 : decode cX1_digest 17 = .ok (.getfield 31, 3) := by decide +kernel
theorem dX1_digest_20 : decode cX1_digest 20 = .ok (.iastore, 1) := by decide +kernel
theorem dX1_digest_21 : decode cX1_digest 21 = .ok (.dup, 1) := by decide +kernel
theorem dX1_digest_22 : decode cX1_digest 22 = .ok (.iconst 1, 1) := by decide +kernel
theorem dX1_digest_23 : decode cX1_digest 23 = .ok (.iload_n 1, 1) := by decide +kernel
theorem dX1_digest_24 : decode cX1_digest 24 = .ok (.iastore, 1) := by decide +kernel
theorem dX1_digest_25 : decode cX1_digest 25 = .ok (.dup, 1) := by decide +kernel
theorem dX1_digest_26 : decode cX1_digest 26 = .ok (.iconst 2, 1) := by decide +kernel
theorem dX1_digest_27 : decode cX1_digest 27 = .ok (.aload_n 0, 1) := by decide +kernel
theorem dX1_digest_28 : decode cX1_digest 28 = .ok (.getfield 7, 3) := by decide +kernel
theorem dX1_digest_31 : decode cX1_digest 31 = .ok (.iastore, 1) := by decide +kernel
theorem dX1_digest_32 : decode cX1_digest 32 = .ok (.dup, 1) := by decide +kernel
theorem dX1_digest_33 : decode cX1_digest 33 = .ok (.iconst 3, 1) := by decide +kernel
theorem dX1_digest_34 : decode cX1_digest 34 = .ok (.aload_n 0, 1) := by decide +kernel
theorem dX1_digest_35 : decode cX1_digest 35 = .ok (.getfield 80, 3) := by decide +kernel
theorem dX1_digest_38 : decode cX1_digest 38 = .ok (.iastore, 1) := by decide +kernel
theorem dX1_digest_39 : decode cX1_digest 39 = .ok (.dup, 1) := by decide +kernel
theorem dX1_digest_40 : decode cX1_digest 40 = .ok (.iconst 4, 1) := by decide +kernel
theorem dX1_digest_41 : decode cX1_digest 41 = .ok (.aload_n 0, 1) := by decide +kernel
theorem dX1_digest_42 : decode cX1_digest 42 = .ok (.invokevirtual 108, 3) := by decide +kernel
theorem dX1_digest_45 : decode cX1_digest 45 = .ok (.iastore, 1) := by decide +kernel
theorem dX1_digest_46 : decode cX1_digest 46 = .ok (.dup, 1) := by decide +kernel
theorem dX1_digest_47 : decode cX1_digest 47 = .ok (.iconst 5, 1) := by decide +kernel
theorem dX1_digest_48 : decode cX1_digest 48 = .ok (.aload_n 0, 1) := by decide +kernel
theorem dX1_digest_49 : decode cX1_digest 49 = .ok (.invokevirtual 129, 3) := by decide +kernel
theorem dX1_digest_52 : decode cX1_digest 52 = .ok (.iastore, 1) := by decide +kernel
theorem dX1_digest_53 : decode cX1_digest 53 = .ok (.dup, 1) := by decide +kernel
theorem dX1_digest_54 : decode cX1_digest 54 = .ok (.bipush 6, 2) := by decide +kernel
theorem dX1_digest_56 : decode cX1_digest 56 = .ok (.aload_n 0, 1) := by decide +kernel
theorem dX1_digest_57 : decode cX1_digest 57 = .ok (.invokevirtual 114, 3) := by decide +kernel
theorem dX1_digest_60 : decode cX1_digest 60 = .ok (.iastore, 1) := by decide +kernel
theorem dX1_digest_61 : decode cX1_digest 61 = .ok (.dup, 1) := by decide +kernel
theorem dX1_digest_62 : decode cX1_digest 62 = .ok (.bipush 7, 2) := by decide +kernel
theorem dX1_digest_64 : decode cX1_digest 64 = .ok (.aload_n 0, 1) := by decide +kernel
theorem dX1_digest_65 : decode cX1_digest 65 = .ok (.invokevirtual 141, 3) := by decide +kernel
theorem dX1_digest_68 : decode cX1_digest 68 = .ok (.iastore, 1) := by decide +kernel
theorem dX1_digest_69 : decode cX1_digest 69 = .ok (.dup, 1) := by decide +kernel
theorem dX1_digest_70 : decode cX1_digest 70 = .ok (.bipush 8, 2) := by decide +kernel
theorem dX1_digest_72 : decode cX1_digest 72 = .ok (.aload_n 0, 1) := by decide +kernel
theorem dX1_digest_73 : decode cX1_digest 73 = .ok (.invokevirtual 150, 3) := by decide +kernel
theorem dX1_digest_76 : decode cX1_digest 76 = .ok (.iastore, 1) := by decide +kernel
theorem dX1_digest_77 : decode cX1_digest 77 = .ok (.dup, 1) := by decide +kernel
theorem dX1_digest_78 : decode cX1_digest 78 = .ok (.bipush 9, 2) := by decide +kernel
theorem dX1_digest_80 : decode cX1_digest 80 = .ok (.aload_n 0, 1) := by decide +kernel
theorem dX1_digest_81 : decode cX1_digest 81 = .ok (.invokevirtual 156, 3) := by decide +kernel
theorem dX1_digest_84 : decode cX1_digest 84 = .ok (.iastore, 1) := by decide +kernel
theorem dX1_digest_85 : decode cX1_digest 85 = .ok (.astore_n 2, 1) := by decide +kernel
theorem dX1_digest_86 : decode cX1_digest 86 = .ok (.ldc2_w 159, 3) := by decide +kernel
theorem dX1_digest_89 : decode cX1_digest 89 = .ok (.lstore_n 3, 1) := by decide +kernel
theorem dX1_digest_90 : decode cX1_digest 90 = .ok (.aload_n 2, 1) := by decide +kernel
theorem dX1_digest_91 : decode cX1_digest 91 = .ok (.astore 5, 2) := by decide +kernel
theorem dX1_digest_93 : decode cX1_digest 93 = .ok (.aload 5, 2) := by decide +kernel
theorem dX1_digest_95 : decode cX1_digest 95 = .ok (.arraylength, 1) := by decide +kernel
theorem dX1_digest_96 : decode cX1_digest 96 = .ok (.istore 6, 2) := by decide +kernel
theorem dX1_digest_98 : decode cX1_digest 98 = .ok (.iconst 0, 1) := by decide +kernel
theorem dX1_digest_99 : decode cX1_digest 99 = .ok (.istore 7, 2) := by decide +kernel
theorem dX1_digest_101 : decode cX1_digest 101 = .ok (.iload 7, 2) := by decide +kernel
theorem dX1_digest_103 : decode cX1_digest 103 = .ok (.iload 6, 2) := by decide +kernel
theorem dX1_digest_105 : decode cX1_digest 105 = .ok (.if_icmp .ge 26, 3) := by decide +kernel
theorem dX1_digest_108 : decode cX1_digest 108 = .ok (.aload 5, 2) := by decide +kernel
theorem dX1_digest_110 : decode cX1_digest 110 = .ok (.iload 7, 2) := by decide +kernel
theorem dX1_digest_112 : decode cX1_digest 112 = .ok (.iaload, 1) := by decide +kernel
theorem dX1_digest_113 : decode cX1_digest 113 = .ok (.istore 8, 2) := by decide +kernel
theorem dX1_digest_115 : decode cX1_digest 115 = .ok (.lload_n 3, 1) := by decide +kernel
theorem dX1_digest_116 : decode cX1_digest 116 = .ok (.ldc2_w 161, 3) := by decide +kernel
theorem dX1_digest_119 : decode cX1_digest 119 = .ok (.lmul, 1) := by decide +kernel
theorem dX1_digest_120 : decode cX1_digest 120 = .ok (.iload 8, 2) := by decide +kernel
theorem dX1_digest_122 : decode cX1_digest 122 = .ok (.i2l, 1) := by decide +kernel
theorem dX1_digest_123 : decode cX1_digest 123 = .ok (.ladd, 1) := by decide +kernel
theorem dX1_digest_124 : decode cX1_digest 124 = .ok (.lstore_n 3, 1) := by decide +kernel
theorem dX1_digest_125 : decode cX1_digest 125 = .ok (.iinc 7 1, 3) := by decide +kernel
theorem dX1_digest_128 : decode cX1_digest 128 = .ok (.goto (-27), 3) := by decide +kernel
theorem dX1_digest_131 : decode cX1_digest 131 = .ok (.iconst 0, 1) := by decide +kernel
theorem dX1_digest_132 : decode cX1_digest 132 = .ok (.istore 5, 2) := by decide +kernel
theorem dX1_digest_134 : decode cX1_digest 134 = .ok (.iload 5, 2) := by decide +kernel
theorem dX1_digest_136 : decode cX1_digest 136 = .ok (.aload_n 0, 1) := by decide +kernel
theorem dX1_digest_137 : decode cX1_digest 137 = .ok (.getfield 31, 3) := by decide +kernel
theorem dX1_digest_140 : decode cX1_digest 140 = .ok (.if_icmp .ge 47, 3) := by decide +kernel
theorem dX1_digest_143 : decode cX1_digest 143 = .ok (.lload_n 3, 1) := by decide +kernel
theorem dX1_digest_144 : decode cX1_digest 144 = .ok (.ldc2_w 161, 3) := by decide +kernel
theorem dX1_digest_147 : decode cX1_digest 147 = .ok (.lmul, 1) := by decide +kernel
theorem dX1_digest_148 : decode cX1_digest 148 = .ok (.aload_n 0, 1) := by decide +kernel
theorem dX1_digest_149 : decode cX1_digest 149 = .ok (.getfield 13, 3) := by decide +kernel
theorem dX1_digest_152 : decode cX1_digest 152 = .ok (.iload 5, 2) := by decide +kernel
theorem dX1_digest_154 : decode cX1_digest 154 = .ok (.iaload, 1) := by decide +kernel
theorem dX1_digest_155 : decode cX1_digest 155 = .ok (.ifCond .ge 7, 3) := by decide +kernel
theorem dX1_digest_158 : decode cX1_digest 158 = .ok (.iconst 1, 1) := by decide +kernel
theorem dX1_digest_159 : decode cX1_digest 159 = .ok (.goto 4, 3) := by decide +kernel
theorem dX1_digest_162 : decode cX1_digest 162 = .ok (.iconst 0, 1) := by decide +kernel
theorem dX1_digest_163 : decode cX1_digest 163 = .ok (.i2l, 1) := by decide +kernel
theorem dX1_digest_164 : decode cX1_digest 164 = .ok (.ladd, 1) := by decide +kernel
theorem dX1_digest_165 : decode cX1_digest 165 = .ok (.lstore_n 3, 1) := by decide +kernel
theorem dX1_digest_166 : decode cX1_digest 166 = .ok (.lload_n 3, 1) := by decide +kernel
theorem dX1_digest_167 : decode cX1_digest 167 = .ok (.ldc2_w 161, 3) := by decide +kernel
theorem dX1_digest_170 : decode cX1_digest 170 = .ok (.lmul, 1) := by decide +kernel
theorem dX1_digest_171 : decode cX1_digest 171 = .ok (.aload_n 0, 1) := by decide +kernel
theorem dX1_digest_172 : decode cX1_digest 172 = .ok (.getfield 17, 3) := by decide +kernel
theorem dX1_digest_175 : decode cX1_digest 175 = .ok (.iload 5, 2) := by decide +kernel
theorem dX1_digest_177 : decode cX1_digest 177 = .ok (.iaload, 1) := by decide +kernel
theorem dX1_digest_178 : decode cX1_digest 178 = .ok (.i2l, 1) := by decide +kernel
theorem dX1_digest_179 : decode cX1_digest 179 = .ok (.ladd, 1) := by decide +kernel
theorem dX1_digest_180 : decode cX1_digest 180 = .ok (.lstore_n 3, 1) := by decide +kernel
theorem dX1_digest_181 : decode cX1_digest 181 = .ok (.iinc 5 1, 3) := by decide +kernel
theorem dX1_digest_184 : decode cX1_digest 184 = .ok (.goto (-50), 3) := by decide +kernel
theorem dX1_digest_187 : decode cX1_digest 187 = .ok (.iconst 0, 1) := by decide +kernel
theorem dX1_digest_188 : decode cX1_digest 188 = .ok (.istore 5, 2) := by decide +kernel
theorem dX1_digest_190 : decode cX1_digest 190 = .ok (.iload 5, 2) := by decide +kernel
theorem dX1_digest_192 : decode cX1_digest 192 = .ok (.iload_n 1, 1) := by decide +kernel
theorem dX1_digest_193 : decode cX1_digest 193 = .ok (.if_icmp .ge 56, 3) := by decide +kernel
theorem dX1_digest_196 : decode cX1_digest 196 = .ok (.lload_n 3, 1) := by decide +kernel
theorem dX1_digest_197 : decode cX1_digest 197 = .ok (.ldc2_w 161, 3) := by decide +kernel
theorem dX1_digest_200 : decode cX1_digest 200 = .ok (.lmul, 1) := by decide +kernel
theorem dX1_digest_201 : decode cX1_digest 201 = .ok (.aload_n 0, 1) := by decide +kernel
theorem dX1_digest_202 : decode cX1_digest 202 = .ok (.iload 5, 2) := by decide +kernel
theorem dX1_digest_204 : decode cX1_digest 204 = .ok (.invokevirtual 48, 3) := by decide +kernel
theorem dX1_digest_207 : decode cX1_digest 207 = .ok (.i2l, 1) := by decide +kernel
theorem dX1_digest_208 : decode cX1_digest 208 = .ok (.ladd, 1) := by decide +kernel
theorem dX1_digest_209 : decode cX1_digest 209 = .ok (.lstore_n 3, 1) := by decide +kernel
theorem dX1_digest_210 : decode cX1_digest 210 = .ok (.lload_n 3, 1) := by decide +kernel
theorem dX1_digest_211 : decode cX1_digest 211 = .ok (.ldc2_w 161, 3) := by decide +kernel
theorem dX1_digest_214 : decode cX1_digest 214 = .ok (.lmul, 1) := by decide +kernel
theorem dX1_digest_215 : decode cX1_digest 215 = .ok (.aload_n 0, 1) := by decide +kernel
theorem dX1_digest_216 : decode cX1_digest 216 = .ok (.getfield 13, 3) := by decide +kernel
theorem dX1_digest_219 : decode cX1_digest 219 = .ok (.aload_n 0, 1) := by decide +kernel
theorem dX1_digest_220 : decode cX1_digest 220 = .ok (.iload 5, 2) := by decide +kernel
theorem dX1_digest_222 : decode cX1_digest 222 = .ok (.invokevirtual 48, 3) := by decide +kernel
theorem dX1_digest_225 : decode cX1_digest 225 = .ok (.iaload, 1) := by decide +kernel
theorem dX1_digest_226 : decode cX1_digest 226 = .ok (.i2l, 1) := by decide +kernel
theorem dX1_digest_227 : decode cX1_digest 227 = .ok (.ladd, 1) := by decide +kernel
theorem dX1_digest_228 : decode cX1_digest 228 = .ok (.lstore_n 3, 1) := by decide +kernel
theorem dX1_digest_229 : decode cX1_digest 229 = .ok (.lload_n 3, 1) := by decide +kernel
theorem dX1_digest_230 : decode cX1_digest 230 = .ok (.ldc2_w 161, 3) := by decide +kernel
theorem dX1_digest_233 : decode cX1_digest 233 = .ok (.lmul, 1) := by decide +kernel
theorem dX1_digest_234 : decode cX1_digest 234 = .ok (.aload_n 0, 1) := by decide +kernel
theorem dX1_digest_235 : decode cX1_digest 235 = .ok (.iload 5, 2) := by decide +kernel
theorem dX1_digest_237 : decode cX1_digest 237 = .ok (.invokevirtual 132, 3) := by decide +kernel
theorem dX1_digest_240 : decode cX1_digest 240 = .ok (.i2l, 1) := by decide +kernel
theorem dX1_digest_241 : decode cX1_digest 241 = .ok (.ladd, 1) := by decide +kernel
theorem dX1_digest_242 : decode cX1_digest 242 = .ok (.lstore_n 3, 1) := by decide +kernel
theorem dX1_digest_243 : decode cX1_digest 243 = .ok (.iinc 5 1, 3) := by decide +kernel
theorem dX1_digest_246 : decode cX1_digest 246 = .ok (.goto (-56), 3) := by decide +kernel
theorem dX1_digest_249 : decode cX1_digest 249 = .ok (.iconst 0, 1) := by decide +kernel
theorem dX1_digest_250 : decode cX1_digest 250 = .ok (.istore 5, 2) := by decide +kernel
theorem dX1_digest_252 : decode cX1_digest 252 = .ok (.iload 5, 2) := by decide +kernel
theorem dX1_digest_254 : decode cX1_digest 254 = .ok (.iload_n 1, 1) := by decide +kernel
theorem dX1_digest_255 : decode cX1_digest 255 = .ok (.iconst 1, 1) := by decide +kernel
theorem dX1_digest_256 : decode cX1_digest 256 = .ok (.isub, 1) := by decide +kernel
theorem dX1_digest_257 : decode cX1_digest 257 = .ok (.if_icmp .ge 122, 3) := by decide +kernel
theorem dX1_digest_260 : decode cX1_digest 260 = .ok (.iconst 5, 1) := by decide +kernel
theorem dX1_digest_261 : decode cX1_digest 261 = .ok (.newarray .int, 2) := by decide +kernel
theorem dX1_digest_263 : decode cX1_digest 263 = .ok (.dup, 1) := by decide +kernel
theorem dX1_digest_264 : decode cX1_digest 264 = .ok (.iconst 0, 1) := by decide +kernel
theorem dX1_digest_265 : decode cX1_digest 265 = .ok (.aload_n 0, 1) := by decide +kernel
theorem dX1_digest_266 : decode cX1_digest 266 = .ok (.iload 5, 2) := by decide +kernel
theorem dX1_digest_268 : decode cX1_digest 268 = .ok (.invokevirtual 60, 3) := by decide +kernel
theorem dX1_digest_271 : decode cX1_digest 271 = .ok (.iastore, 1) := by decide +kernel
theorem dX1_digest_272 : decode cX1_digest 272 = .ok (.dup, 1) := by decide +kernel
theorem dX1_digest_273 : decode cX1_digest 273 = .ok (.iconst 1, 1) := by decide +kernel
theorem dX1_digest_274 : decode cX1_digest 274 = .ok (.aload_n 0, 1) := by decide +kernel
theorem dX1_digest_275 : decode cX1_digest 275 = .ok (.iload 5, 2) := by decide +kernel
theorem dX1_digest_277 : decode cX1_digest 277 = .ok (.invokevirtual 63, 3) := by decide +kernel
theorem dX1_digest_280 : decode cX1_digest 280 = .ok (.iastore, 1) := by decide +kernel
theorem dX1_digest_281 : decode cX1_digest 281 = .ok (.dup, 1) := by decide +kernel
theorem dX1_digest_282 : decode cX1_digest 282 = .ok (.iconst 2, 1) := by decide +kernel
theorem dX1_digest_283 : decode cX1_digest 283 = .ok (.aload_n 0, 1) := by decide +kernel
theorem dX1_digest_284 : decode cX1_digest 284 = .ok (.getfield 20, 3) := by decide +kernel
theorem dX1_digest_287 : decode cX1_digest 287 = .ok (.aload_n 0, 1) := by decide +kernel
theorem dX1_digest_288 : decode cX1_digest 288 = .ok (.iload 5, 2) := by decide +kernel
theorem dX1_digest_290 : decode cX1_digest 290 = .ok (.invokevirtual 54, 3) := by decide +kernel
theorem dX1_digest_293 : decode cX1_digest 293 = .ok (.baload, 1) := by decide +kernel
theorem dX1_digest_294 : decode cX1_digest 294 = .ok (.ifCond .eq 7, 3) := by decide +kernel
theorem dX1_digest_297 : decode cX1_digest 297 = .ok (.iconst 1, 1) := by decide +kernel
theorem dX1_digest_298 : decode cX1_digest 298 = .ok (.goto 4, 3) := by decide +kernel
theorem dX1_digest_301 : decode cX1_digest 301 = .ok (.iconst 0, 1) := by decide +kernel
theorem dX1_digest_302 : decode cX1_digest 302 = .ok (.iastore, 1) := by decide +kernel
theorem dX1_digest_303 : decode cX1_digest 303 = .ok (.dup, 1) := by decide +kernel
theorem dX1_digest_304 : decode cX1_digest 304 = .ok (.iconst 3, 1) := by decide +kernel
theorem dX1_digest_305 : decode cX1_digest 305 = .ok (.aload_n 0, 1) := by decide +kernel
theorem dX1_digest_306 : decode cX1_digest 306 = .ok (.iload 5, 2) := by decide +kernel
theorem dX1_digest_308 : decode cX1_digest 308 = .ok (.invokevirtual 74, 3) := by decide +kernel
theorem dX1_digest_311 : decode cX1_digest 311 = .ok (.ifCond .eq 7, 3) := by decide +kernel
theorem dX1_digest_314 : decode cX1_digest 314 = .ok (.iconst 1, 1) := by decide +kernel
theorem dX1_digest_315 : decode cX1_digest 315 = .ok (.goto 4, 3) := by decide +kernel
theorem dX1_digest_318 : decode cX1_digest 318 = .ok (.iconst 0, 1) := by decide +kernel
theorem dX1_digest_319 : decode cX1_digest 319 = .ok (.iastore, 1) := by decide +kernel
theorem dX1_digest_320 : decode cX1_digest 320 = .ok (.dup, 1) := by decide +kernel
theorem dX1_digest_321 : decode cX1_digest 321 = .ok (.iconst 4, 1) := by decide +kernel
theorem dX1_digest_322 : decode cX1_digest 322 = .ok (.aload_n 0, 1) := by decide +kernel
theorem dX1_digest_323 : decode cX1_digest 323 = .ok (.iload 5, 2) := by decide +kernel
theorem dX1_digest_325 : decode cX1_digest 325 = .ok (.invokevirtual 147, 3) := by decide +kernel
theorem dX1_digest_328 : decode cX1_digest 328 = .ok (.iastore, 1) := by decide +kernel
theorem dX1_digest_329 : decode cX1_digest 329 = .ok (.astore 6, 2) := by decide +kernel
theorem dX1_digest_331 : decode cX1_digest 331 = .ok (.aload 6, 2) := by decide +kernel
theorem dX1_digest_333 : decode cX1_digest 333 = .ok (.astore 7, 2) := by decide +kernel
theorem dX1_digest_335 : decode cX1_digest 335 = .ok (.aload 7, 2) := by decide +kernel
theorem dX1_digest_337 : decode cX1_digest 337 = .ok (.arraylength, 1) := by decide +kernel
theorem dX1_digest_338 : decode cX1_digest 338 = .ok (.istore 8, 2) := by decide +kernel
theorem dX1_digest_340 : decode cX1_digest 340 = .ok (.iconst 0, 1) := by decide +kernel
theorem dX1_digest_341 : decode cX1_digest 341 = .ok (.istore 9, 2) := by decide +kernel
theorem dX1_digest_343 : decode cX1_digest 343 = .ok (.iload 9, 2) := by decide +kernel
theorem dX1_digest_345 : decode cX1_digest 345 = .ok (.iload 8, 2) := by decide +kernel
theorem dX1_digest_347 : decode cX1_digest 347 = .ok (.if_icmp .ge 26, 3) := by decide +kernel
theorem dX1_digest_350 : decode cX1_digest 350 = .ok (.aload 7, 2) := by decide +kernel
theorem dX1_digest_352 : decode cX1_digest 352 = .ok (.iload 9, 2) := by decide +kernel
theorem dX1_digest_354 : decode cX1_digest 354 = .ok (.iaload, 1) := by decide +kernel
theorem dX1_digest_355 : decode cX1_digest 355 = .ok (.istore 10, 2) := by decide +kernel
theorem dX1_digest_357 : decode cX1_digest 357 = .ok (.lload_n 3, 1) := by decide +kernel
theorem dX1_digest_358 : decode cX1_digest 358 = .ok (.ldc2_w 161, 3) := by decide +kernel
theorem dX1_digest_361 : decode cX1_digest 361 = .ok (.lmul, 1) := by decide +kernel
theorem dX1_digest_362 : decode cX1_digest 362 = .ok (.iload 10, 2) := by decide +kernel
theorem dX1_digest_364 : decode cX1_digest 364 = .ok (.i2l, 1) := by decide +kernel
theorem dX1_digest_365 : decode cX1_digest 365 = .ok (.ladd, 1) := by decide +kernel
theorem dX1_digest_366 : decode cX1_digest 366 = .ok (.lstore_n 3, 1) := by decide +kernel
theorem dX1_digest_367 : decode cX1_digest 367 = .ok (.iinc 9 1, 3) := by decide +kernel
theorem dX1_digest_370 : decode cX1_digest 370 = .ok (.goto (-27), 3) := by decide +kernel
theorem dX1_digest_373 : decode cX1_digest 373 = .ok (.iinc 5 1, 3) := by decide +kernel
theorem dX1_digest_376 : decode cX1_digest 376 = .ok (.goto (-124), 3) := by decide +kernel
theorem dX1_digest_379 : decode cX1_digest 379 = .ok (.lload_n 3, 1) := by decide +kernel
theorem dX1_digest_380 : decode cX1_digest 380 = .ok (.lreturn, 1) := by decide +kernel
theorem dJ6_bitCount_0f7a4_0 : decode cJ6_bitCount_0f7a4 0 = .ok (.iload_n 0, 1) := by decide +kernel
theorem dJ6_bitCount_0f7a4_1 : decode cJ6_bitCount_0f7a4 1 = .ok (.iload_n 0, 1) := by decide +kernel
theorem dJ6_bitCount_0f7a4_2 : decode cJ6_bitCount_0f7a4 2 = .ok (.iconst 1, 1) := by decide +kernel
theorem dJ6_bitCount_0f7a4_3 : decode cJ6_bitCount_0f7a4 3 = .ok (.iushr, 1) := by decide +kernel
theorem dJ6_bitCount_0f7a4_4 : decode cJ6_bitCount_0f7a4 4 = .ok (.ldc_w 265, 3) := by decide +kernel
theorem dJ6_bitCount_0f7a4_7 : decode cJ6_bitCount_0f7a4 7 = .ok (.iand, 1) := by decide +kernel
theorem dJ6_bitCount_0f7a4_8 : decode cJ6_bitCount_0f7a4 8 = .ok (.isub, 1) := by decide +kernel
theorem dJ6_bitCount_0f7a4_9 : decode cJ6_bitCount_0f7a4 9 = .ok (.istore_n 0, 1) := by decide +kernel
theorem dJ6_bitCount_0f7a4_10 : decode cJ6_bitCount_0f7a4 10 = .ok (.iload_n 0, 1) := by decide +kernel
theorem dJ6_bitCount_0f7a4_11 : decode cJ6_bitCount_0f7a4 11 = .ok (.ldc_w 266, 3) := by decide +kernel
theorem dJ6_bitCount_0f7a4_14 : decode cJ6_bitCount_0f7a4 14 = .ok (.iand, 1) := by decide +kernel
theorem dJ6_bitCount_0f7a4_15 : decode cJ6_bitCount_0f7a4 15 = .ok (.iload_n 0, 1) := by decide +kernel
theorem dJ6_bitCount_0f7a4_16 : decode cJ6_bitCount_0f7a4 16 = .ok (.iconst 2, 1) := by decide +kernel
theorem dJ6_bitCount_0f7a4_17 : decode cJ6_bitCount_0f7a4 17 = .ok (.iushr, 1) := by decide +kernel
theorem dJ6_bitCount_0f7a4_18 : decode cJ6_bitCount_0f7a4 18 = .ok (.ldc_w 266, 3) := by decide +kernel
theorem dJ6_bitCount_0f7a4_21 : decode cJ6_bitCount_0f7a4 21 = .ok (.iand, 1) := by decide +kernel
theorem dJ6_bitCount_0f7a4_22 : decode cJ6_bitCount_0f7a4 22 = .ok (.iadd, 1) := by decide +kernel
theorem dJ6_bitCount_0f7a4_23 : decode cJ6_bitCount_0f7a4 23 = .ok (.istore_n 0, 1) := by decide +kernel
theorem dJ6_bitCount_0f7a4_24 : decode cJ6_bitCount_0f7a4 24 = .ok (.iload_n 0, 1) := by decide +kernel
theorem dJ6_bitCount_0f7a4_25 : decode cJ6_bitCount_0f7a4 25 = .ok (.iload_n 0, 1) := by decide +kernel
theorem dJ6_bitCount_0f7a4_26 : decode cJ6_bitCount_0f7a4 26 = .ok (.iconst 4, 1) := by decide +kernel
theorem dJ6_bitCount_0f7a4_27 : decode cJ6_bitCount_0f7a4 27 = .ok (.iushr, 1) := by decide +kernel
theorem dJ6_bitCount_0f7a4_28 : decode cJ6_bitCount_0f7a4 28 = .ok (.iadd, 1) := by decide +kernel
theorem dJ6_bitCount_0f7a4_29 : decode cJ6_bitCount_0f7a4 29 = .ok (.ldc_w 267, 3) := by decide +kernel
theorem dJ6_bitCount_0f7a4_32 : decode cJ6_bitCount_0f7a4 32 = .ok (.iand, 1) := by decide +kernel
theorem dJ6_bitCount_0f7a4_33 : decode cJ6_bitCount_0f7a4 33 = .ok (.istore_n 0, 1) := by decide +kernel
theorem dJ6_bitCount_0f7a4_34 : decode cJ6_bitCount_0f7a4 34 = .ok (.iload_n 0, 1) := by decide +kernel
theorem dJ6_bitCount_0f7a4_35 : decode cJ6_bitCount_0f7a4 35 = .ok (.iload_n 0, 1) := by decide +kernel
theorem dJ6_bitCount_0f7a4_36 : decode cJ6_bitCount_0f7a4 36 = .ok (.bipush 8, 2) := by decide +kernel
theorem dJ6_bitCount_0f7a4_38 : decode cJ6_bitCount_0f7a4 38 = .ok (.iushr, 1) := by decide +kernel
theorem dJ6_bitCount_0f7a4_39 : decode cJ6_bitCount_0f7a4 39 = .ok (.iadd, 1) := by decide +kernel
theorem dJ6_bitCount_0f7a4_40 : decode cJ6_bitCount_0f7a4 40 = .ok (.istore_n 0, 1) := by decide +kernel
theorem dJ6_bitCount_0f7a4_41 : decode cJ6_bitCount_0f7a4 41 = .ok (.iload_n 0, 1) := by decide +kernel
theorem dJ6_bitCount_0f7a4_42 : decode cJ6_bitCount_0f7a4 42 = .ok (.iload_n 0, 1) := by decide +kernel
theorem dJ6_bitCount_0f7a4_43 : decode cJ6_bitCount_0f7a4 43 = .ok (.bipush 16, 2) := by decide +kernel
theorem dJ6_bitCount_0f7a4_45 : decode cJ6_bitCount_0f7a4 45 = .ok (.iushr, 1) := by decide +kernel
theorem dJ6_bitCount_0f7a4_46 : decode cJ6_bitCount_0f7a4 46 = .ok (.iadd, 1) := by decide +kernel
theorem dJ6_bitCount_0f7a4_47 : decode cJ6_bitCount_0f7a4 47 = .ok (.istore_n 0, 1) := by decide +kernel
theorem dJ6_bitCount_0f7a4_48 : decode cJ6_bitCount_0f7a4 48 = .ok (.iload_n 0, 1) := by decide +kernel
theorem dJ6_bitCount_0f7a4_49 : decode cJ6_bitCount_0f7a4 49 = .ok (.bipush 63, 2) := by decide +kernel
theorem dJ6_bitCount_0f7a4_51 : decode cJ6_bitCount_0f7a4 51 = .ok (.iand, 1) := by decide +kernel
theorem dJ6_bitCount_0f7a4_52 : decode cJ6_bitCount_0f7a4 52 = .ok (.ireturn, 1) := by decide +kernel
theorem dJ9_floorMod_7cf53_0 : decode cJ9_floorMod_7cf53 0 = .ok (.iload_n 0, 1) := by decide +kernel
theorem dJ9_floorMod_7cf53_1 : decode cJ9_floorMod_7cf53 1 = .ok (.iload_n 1, 1) := by decide +kernel
theorem dJ9_floorMod_7cf53_2 : decode cJ9_floorMod_7cf53 2 = .ok (.irem, 1) := by decide +kernel
theorem dJ9_floorMod_7cf53_3 : decode cJ9_floorMod_7cf53 3 = .ok (.istore_n 2, 1) := by decide +kernel
theorem dJ9_floorMod_7cf53_4 : decode cJ9_floorMod_7cf53 4 = .ok (.iload_n 0, 1) := by decide +kernel
theorem dJ9_floorMod_7cf53_5 : decode cJ9_floorMod_7cf53 5 = .ok (.iload_n 1, 1) := by decide +kernel
theorem dJ9_floorMod_7cf53_6 : decode cJ9_floorMod_7cf53 6 = .ok (.ixor, 1) := by decide +kernel
theorem dJ9_floorMod_7cf53_7 : decode cJ9_floorMod_7cf53 7 = .ok (.ifCond .ge 11, 3) := by decide +kernel
theorem dJ9_floorMod_7cf53_10 : decode cJ9_floorMod_7cf53 10 = .ok (.iload_n 2, 1) := by decide +kernel
theorem dJ9_floorMod_7cf53_11 : decode cJ9_floorMod_7cf53 11 = .ok (.ifCond .eq 7, 3) := by decide +kernel
theorem dJ9_floorMod_7cf53_14 : decode cJ9_floorMod_7cf53 14 = .ok (.iload_n 2, 1) := by decide +kernel
theorem dJ9_floorMod_7cf53_15 : decode cJ9_floorMod_7cf53 15 = .ok (.iload_n 1, 1) := by decide +kernel
theorem dJ9_floorMod_7cf53_16 : decode cJ9_floorMod_7cf53 16 = .ok (.iadd, 1) := by decide +kernel
theorem dJ9_floorMod_7cf53_17 : decode cJ9_floorMod_7cf53 17 = .ok (.ireturn, 1) := by decide +kernel
theorem dJ9_floorMod_7cf53_18 : decode cJ9_floorMod_7cf53 18 = .ok (.iload_n 2, 1) := by decide +kernel
theorem dJ9_floorMod_7cf53_19 : decode cJ9_floorMod_7cf53 19 = .ok (.ireturn, 1) := by decide +kernel
theorem dJ9_abs_0f7a4_0 : decode cJ9_abs_0f7a4 0 = .ok (.iload_n 0, 1) := by decide +kernel
theorem dJ9_abs_0f7a4_1 : decode cJ9_abs_0f7a4 1 = .ok (.ifCond .ge 8, 3) := by decide +kernel
theorem dJ9_abs_0f7a4_4 : decode cJ9_abs_0f7a4 4 = .ok (.iload_n 0, 1) := by decide +kernel
theorem dJ9_abs_0f7a4_5 : decode cJ9_abs_0f7a4 5 = .ok (.ineg, 1) := by decide +kernel
theorem dJ9_abs_0f7a4_6 : decode cJ9_abs_0f7a4 6 = .ok (.goto 4, 3) := by decide +kernel
theorem dJ9_abs_0f7a4_9 : decode cJ9_abs_0f7a4 9 = .ok (.iload_n 0, 1) := by decide +kernel
theorem dJ9_abs_0f7a4_10 : decode cJ9_abs_0f7a4 10 = .ok (.ireturn, 1) := by decide +kernel
theorem dJ9_min_7cf53_0 : decode cJ9_min_7cf53 0 = .ok (.iload_n 0, 1) := by decide +kernel
theorem dJ9_min_7cf53_1 : decode cJ9_min_7cf53 1 = .ok (.iload_n 1, 1) := by decide +kernel
theorem dJ9_min_7cf53_2 : decode cJ9_min_7cf53 2 = .ok (.if_icmp .gt 7, 3) := by decide +kernel
theorem dJ9_min_7cf53_5 : decode cJ9_min_7cf53 5 = .ok (.iload_n 0, 1) := by decide +kernel
theorem dJ9_min_7cf53_6 : decode cJ9_min_7cf53 6 = .ok (.goto 4, 3) := by decide +kernel
theorem dJ9_min_7cf53_9 : decode cJ9_min_7cf53 9 = .ok (.iload_n 1, 1) := by decide +kernel
theorem dJ9_min_7cf53_10 : decode cJ9_min_7cf53 10 = .ok (.ireturn, 1) := by decide +kernel
set_option maxRecDepth 20000 in
theorem ggL_say_X0_say : GoodIn wsL_say wsX0_say := goodIn_ca (goodIn_ca (goodIn_ca (goodIn_r _ [8, 9, 10, 7, 11, 12, 13, 14, 15, 16, 17, 18, 19, 20, 21, 22, 23, 24, 25, 26, 27, 28, 29, 30, 31, 32, 33, 34, 35, 36, 37, 38, 39, 40, 41, 42, 43, 44, 45, 46, 47, 48, 49, 50, 51, 52, 53, 54, 55, 56, 57, 58, 59, 60, 61, 62, 63, 64, 65, 66, 67, 68, 69, 70, 71, 72, 73, 74, 75, 76, 77, 78, 79, 80, 81, 82, 83, 84, 85, 86, 87, 88, 89, 90, 91, 92, 93, 94, 95, 96, 97, 98, 99, 100, 101, 102, 103, 104, 105, 106, 107, 108] (by decide +kernel) (by decide +kernel)) (goodIn_sub (fun _ h => List.mem_cons_of_mem _ (List.mem_append_left _ (List.mem_append_left _ (List.mem_append_right _ h)))) (by decide +kernel))) (goodIn_sub (fun _ h => List.mem_cons_of_mem _ (List.mem_append_left _ (List.mem_append_right _ h))) (by decide +kernel))) (goodIn_sub (fun _ h => List.mem_cons_of_mem _ (List.mem_append_right _ h)) (by decide +kernel))
set_option maxRecDepth 20000 in
theorem gL_say_X0_say : GoodIn wsL_say (wsV RL 7 RX0 yX0_say wsX0_say) := goodIn_app (goodIn_of _ (by decide +kernel)) ggL_say_X0_say
theorem dL_say_0 : decode cL_say 0 = .ok (.aload_n 3, 1) := by decide +kernel
theorem dL_say_1 : decode cL_say 1 = .ok (.iconst 0, 1) := by decide +kernel
theorem dL_say_2 : decode cL_say 2 = .ok (.aload_n 0, 1) := by decide +kernel
theorem dL_say_3 : decode cL_say 3 = .ok (.iload_n 1, 1) := by decide +kernel
theorem dL_say_4 : decode cL_say 4 = .ok (.iload_n 2, 1) := by decide +kernel
theorem dL_say_5 : decode cL_say 5 = .ok (.invokevirtual 7, 3) := by decide +kernel
theorem dL_say_8 : decode cL_say 8 = .ok (.i2l, 1) := by decide +kernel
theorem dL_say_9 : decode cL_say 9 = .ok (.lastore, 1) := by decide +kernel
theorem dL_say_10 : decode cL_say 10 = .ok (.goto 15, 3) := by decide +kernel
theorem dL_say_13 : decode cL_say 13 = .ok (.astore 4, 2) := by decide +kernel
theorem dL_say_15 : decode cL_say 15 = .ok (.iconst 1, 1) := by decide +kernel
theorem dL_say_16 : decode cL_say 16 = .ok (.ireturn, 1) := by decide +kernel
theorem dL_say_17 : decode cL_say 17 = .ok (.astore 4, 2) := by decide +kernel
theorem dL_say_19 : decode cL_say 19 = .ok (.iconst 2, 1) := by decide +kernel
theorem dL_say_20 : decode cL_say 20 = .ok (.ireturn, 1) := by decide +kernel
theorem dL_say_21 : decode cL_say 21 = .ok (.astore 4, 2) := by decide +kernel
theorem dL_say_23 : decode cL_say 23 = .ok (.iconst 3, 1) := by decide +kernel
theorem dL_say_24 : decode cL_say 24 = .ok (.ireturn, 1) := by decide +kernel
theorem dL_say_25 : decode cL_say 25 = .ok (.iconst 0, 1) := by decide +kernel
theorem dL_say_26 : decode cL_say 26 = .ok (.ireturn, 1) := by decide +kernel
set_option maxRecDepth 20000 in
theorem ggL_cough_X0_cough : GoodIn wsL_cough wsX0_cough := goodIn_ca (goodIn_ca (goodIn_r _ [7, 8, 9, 6, 10, 11, 12, 13, 14, 15, 16, 17, 18, 19, 20, 21, 22, 23, 24, 25, 26, 27, 28, 29, 30, 31, 32, 33, 34, 35, 36, 37, 38, 39, 40, 41, 42, 43, 44, 45, 46, 47, 48, 49, 50, 51, 52, 53, 54, 55, 56, 57, 58, 59, 60, 61, 62, 63, 64, 65, 66, 67, 68, 69, 70, 71, 72, 73, 74, 75, 76, 77, 78, 79, 80, 81, 82, 83, 84, 85, 86, 87, 88, 89, 90, 91, 92, 93, 94, 95, 96, 97, 98, 99, 100, 101, 102] (by decide +kernel) (by decide +kernel)) (goodIn_sub (fun _ h => List.mem_cons_of_mem _ (List.mem_append_left _ (List.mem_append_right _ h))) (by decide +kernel))) (goodIn_sub (fun _ h => List.mem_cons_of_mem _ (List.mem_append_right _ h)) (by decide +kernel))
set_option maxRecDepth 20000 in
theorem gL_cough_X0_cough : GoodIn wsL_cough (wsV RL 19 RX0 yX0_cough wsX0_cough) := goodIn_app (goodIn_of _ (by decide +kernel)) ggL_cough_X0_cough
theorem dL_cough_0 : decode cL_cough 0 = .ok (.aload_n 2, 1) := by decide +kernel
theorem dL_cough_1 : decode cL_cough 1 = .ok (.iconst 0, 1) := by decide +kernel
theorem dL_cough_2 : decode cL_cough 2 = .ok (.aload_n 0, 1) := by decide +kernel
theorem dL_cough_3 : decode cL_cough 3 = .ok (.iload_n 1, 1) := by decide +kernel
theorem dL_cough_4 : decode cL_cough 4 = .ok (.invokevirtual 19, 3) := by decide +kernel
theorem dL_cough_7 : decode cL_cough 7 = .ok (.i2l, 1) := by decide +kernel
theorem dL_cough_8 : decode cL_cough 8 = .ok (.lastore, 1) := by decide +kernel
theorem dL_cough_9 : decode cL_cough 9 = .ok (.goto 9, 3) := by decide +kernel
theorem dL_cough_12 : decode cL_cough 12 = .ok (.astore_n 3, 1) := by decide +kernel
theorem dL_cough_13 : decode cL_cough 13 = .ok (.iconst 1, 1) := by decide +kernel
theorem dL_cough_14 : decode cL_cough 14 = .ok (.ireturn, 1) := by decide +kernel
theorem dL_cough_15 : decode cL_cough 15 = .ok (.astore_n 3, 1) := by decide +kernel
theorem dL_cough_16 : decode cL_cough 16 = .ok (.iconst 2, 1) := by decide +kernel
theorem dL_cough_17 : decode cL_cough 17 = .ok (.ireturn, 1) := by decide +kernel
theorem dL_cough_18 : decode cL_cough 18 = .ok (.iconst 0, 1) := by decide +kernel
theorem dL_cough_19 : decode cL_cough 19 = .ok (.ireturn, 1) := by decide +kernel
set_option maxRecDepth 20000 in
theorem ggL_removeCough_X0_removeCough : GoodIn wsL_removeCough wsX0_removeCough := goodIn_ca (goodIn_ca (goodIn_r _ [7, 8, 9, 10, 11, 12, 13, 6, 14, 15, 16, 17, 18, 19, 20, 21, 22, 23, 24, 25, 26, 27, 28, 29, 30, 31, 32, 33, 34, 35, 36, 37, 38, 39, 40, 41, 42, 43, 44, 45, 46, 47, 48, 49, 50, 51, 52, 53, 54, 55, 56, 57, 58, 59, 60, 61, 62, 63, 64, 65, 66, 67, 68, 69, 70, 71, 72, 73, 74, 75, 76, 77, 78, 79, 80, 81, 82, 83, 84, 85, 86, 87, 88, 89, 90, 91, 92, 93, 94, 95, 96, 97, 98, 99, 100, 101, 102, 103, 104, 105, 106, 107, 108, 109] (by decide +kernel) (by decide +kernel)) (goodIn_sub (fun _ h => List.mem_cons_of_mem _ (List.mem_append_left _ (List.mem_append_right _ h))) (by decide +kernel))) (goodIn_sub (fun _ h => List.mem_cons_of_mem _ (List.mem_append_right _ h)) (by decide +kernel))
set_option maxRecDepth 20000 in
theorem gL_removeCough_X0_removeCough : GoodIn wsL_removeCough (wsV RL 23 RX0 yX0_removeCough wsX0_removeCough) := goodIn_app (goodIn_of _ (by decide +kernel)) ggL_removeCough_X0_removeCough
theorem dL_removeCough_0 : decode cL_removeCough 0 = .ok (.aload_n 2, 1) := by decide +kernel
theorem dL_removeCough_1 : decode cL_removeCough 1 = .ok (.iconst 0, 1) := by decide +kernel
theorem dL_removeCough_2 : decode cL_removeCough 2 = .ok (.aload_n 0, 1) := by decide +kernel
theorem dL_removeCough_3 : decode cL_removeCough 3 = .ok (.iload_n 1, 1) := by decide +kernel
theorem dL_removeCough_4 : decode cL_removeCough 4 = .ok (.invokevirtual 23, 3) := by decide +kernel
theorem dL_removeCough_7 : decode cL_removeCough 7 = .ok (.i2l, 1) := by decide +kernel
theorem dL_removeCough_8 : decode cL_removeCough 8 = .ok (.lastore, 1) := by decide +kernel
theorem dL_removeCough_9 : decode cL_removeCough 9 = .ok (.goto 9, 3) := by decide +kernel
theorem dL_removeCough_12 : decode cL_removeCough 12 = .ok (.astore_n 3, 1) := by decide +kernel
theorem dL_removeCough_13 : decode cL_removeCough 13 = .ok (.iconst 1, 1) := by decide +kernel
theorem dL_removeCough_14 : decode cL_removeCough 14 = .ok (.ireturn, 1) := by decide +kernel
theorem dL_removeCough_15 : decode cL_removeCough 15 = .ok (.astore_n 3, 1) := by decide +kernel
theorem dL_removeCough_16 : decode cL_removeCough 16 = .ok (.iconst 2, 1) := by decide +kernel
theorem dL_removeCough_17 : decode cL_removeCough 17 = .ok (.ireturn, 1) := by decide +kernel
theorem dL_removeCough_18 : decode cL_removeCough 18 = .ok (.iconst 0, 1) := by decide +kernel
theorem dL_removeCough_19 : decode cL_removeCough 19 = .ok (.ireturn, 1) := by decide +kernel
set_option maxRecDepth 20000 in
theorem ggL_tie_X0_tie : GoodIn wsL_tie wsX0_tie := goodIn_ca (goodIn_ca (goodIn_r _ [7, 8, 9, 10, 11, 12, 13, 6, 14, 15, 16, 17, 18, 19, 20, 21, 22, 23, 24, 25, 26, 27, 28, 29, 30, 31, 32, 33, 34, 35, 36, 37, 38, 39, 40, 41, 42, 43, 44, 45, 46, 47, 48, 49, 50, 51, 52, 53, 54, 55, 56, 57, 58, 59, 60, 61, 62, 63, 64, 65, 66, 67, 68, 69, 70, 71, 72, 73, 74, 75, 76, 77, 78, 79, 80, 81, 82, 83, 84, 85, 86, 87, 88, 89, 90, 91, 92, 93, 94, 95, 96, 97, 98, 99, 100, 101, 102, 103, 104, 105, 106, 107, 108, 109] (by decide +kernel) (by decide +kernel)) (goodIn_sub (fun _ h => List.mem_cons_of_mem _ (List.mem_append_left _ (List.mem_append_right _ h))) (by decide +kernel))) (goodIn_sub (fun _ h => List.mem_cons_of_mem _ (List.mem_append_right _ h)) (by decide +kernel))
set_option maxRecDepth 20000 in
theorem gL_tie_X0_tie : GoodIn wsL_tie (wsV RL 26 RX0 yX0_tie wsX0_tie) := goodIn_app (goodIn_of _ (by decide +kernel)) ggL_tie_X0_tie
theorem dL_tie_0 : decode cL_tie 0 = .ok (.aload_n 2, 1) := by decide +kernel
theorem dL_tie_1 : decode cL_tie 1 = .ok (.iconst 0, 1) := by decide +kernel
theorem dL_tie_2 : decode cL_tie 2 = .ok (.aload_n 0, 1) := by decide +kernel
theorem dL_tie_3 : decode cL_tie 3 = .ok (.iload_n 1, 1) := by decide +kernel
theorem dL_tie_4 : decode cL_tie 4 = .ok (.invokevirtual 26, 3) := by decide +kernel
theorem dL_tie_7 : decode cL_tie 7 = .ok (.i2l, 1) := by decide +kernel
theorem dL_tie_8 : decode cL_tie 8 = .ok (.lastore, 1) := by decide +kernel
theorem dL_tie_9 : decode cL_tie 9 = .ok (.goto 9, 3) := by decide +kernel
theorem dL_tie_12 : decode cL_tie 12 = .ok (.astore_n 3, 1) := by decide +kernel
theorem dL_tie_13 : decode cL_tie 13 = .ok (.iconst 1, 1) := by decide +kernel
theorem dL_tie_14 : decode cL_tie 14 = .ok (.ireturn, 1) := by decide +kernel
theorem dL_tie_15 : decode cL_tie 15 = .ok (.astore_n 3, 1) := by decide +kernel
theorem dL_tie_16 : decode cL_tie 16 = .ok (.iconst 2, 1) := by decide +kernel
theorem dL_tie_17 : decode cL_tie 17 = .ok (.ireturn, 1) := by decide +kernel
theorem dL_tie_18 : decode cL_tie 18 = .ok (.iconst 0, 1) := by decide +kernel
theorem dL_tie_19 : decode cL_tie 19 = .ok (.ireturn, 1) := by decide +kernel
set_option maxRecDepth 20000 in
theorem ggL_splice_X0_splice : GoodIn wsL_splice wsX0_splice := goodIn_ca (goodIn_ca (goodIn_r _ [7, 8, 9, 10, 11, 6, 12, 13, 14, 15, 16, 17, 18, 19, 20, 21, 22, 23, 24, 25, 26, 27, 28, 29, 30, 31, 32, 33, 34, 35, 36, 37, 38, 39, 40, 41, 42, 43, 44, 45, 46, 47, 48, 49, 50, 51, 52, 53, 54, 55, 56, 57, 58, 59, 60, 61, 62, 63, 64, 65, 66, 67, 68, 69, 70, 71, 72, 73, 74, 75, 76, 77, 78, 79, 80, 81, 82, 83, 84, 85, 86, 87, 88, 89, 90, 91, 92, 93, 94, 95, 96, 97, 98, 99, 100, 101, 102, 103, 104, 105, 106, 107, 108, 109, 110, 111, 112, 113, 114, 115, 116, 117, 118, 119, 120, 121, 122, 123, 124, 125, 126, 127, 128, 129, 130, 131, 132] (by decide +kernel) (by decide +kernel)) (goodIn_sub (fun _ h => List.mem_cons_of_mem _ (List.mem_append_left _ (List.mem_append_right _ h))) (by decide +kernel))) (goodIn_sub (fun _ h => List.mem_cons_of_mem _ (List.mem_append_right _ h)) (by decide +kernel))
set_option maxRecDepth 20000 in
theorem gL_splice_X0_splice : GoodIn wsL_splice (wsV RL 29 RX0 yX0_splice wsX0_splice) := goodIn_app (goodIn_of _ (by decide +kernel)) ggL_splice_X0_splice
theorem dL_splice_0 : decode cL_splice 0 = .ok (.aload_n 2, 1) := by decide +kernel
theorem dL_splice_1 : decode cL_splice 1 = .ok (.iconst 0, 1) := by decide +kernel
theorem dL_splice_2 : decode cL_splice 2 = .ok (.aload_n 0, 1) := by decide +kernel
theorem dL_splice_3 : decode cL_splice 3 = .ok (.iload_n 1, 1) := by decide +kernel
theorem dL_splice_4 : decode cL_splice 4 = .ok (.invokevirtual 29, 3) := by decide +kernel
theorem dL_splice_7 : decode cL_splice 7 = .ok (.i2l, 1) := by decide +kernel
theorem dL_splice_8 : decode cL_splice 8 = .ok (.lastore, 1) := by decide +kernel
theorem dL_splice_9 : decode cL_splice 9 = .ok (.goto 9, 3) := by decide +kernel
theorem dL_splice_12 : decode cL_splice 12 = .ok (.astore_n 3, 1) := by decide +kernel
theorem dL_splice_13 : decode cL_splice 13 = .ok (.iconst 1, 1) := by decide +kernel
theorem dL_splice_14 : decode cL_splice 14 = .ok (.ireturn, 1) := by decide +kernel
theorem dL_splice_15 : decode cL_splice 15 = .ok (.astore_n 3, 1) := by decide +kernel
theorem dL_splice_16 : decode cL_splice 16 = .ok (.iconst 2, 1) := by decide +kernel
theorem dL_splice_17 : decode cL_splice 17 = .ok (.ireturn, 1) := by decide +kernel
theorem dL_splice_18 : decode cL_splice 18 = .ok (.iconst 0, 1) := by decide +kernel
theorem dL_splice_19 : decode cL_splice 19 = .ok (.ireturn, 1) := by decide +kernel
set_option maxRecDepth 20000 in
theorem ggL_rest_X0_rest : GoodIn wsL_rest wsX0_rest := goodIn_ca (goodIn_r _ [6, 7, 8, 9, 10, 11, 12, 13, 14, 15, 16, 17, 18, 19, 20, 21, 22, 23] (by decide +kernel) (by decide +kernel)) (goodIn_sub (fun _ h => List.mem_cons_of_mem _ (List.mem_append_right _ h)) (by decide +kernel))
set_option maxRecDepth 20000 in
theorem gL_rest_X0_rest : GoodIn wsL_rest (wsV RL 32 RX0 yX0_rest wsX0_rest) := goodIn_app (goodIn_of _ (by decide +kernel)) ggL_rest_X0_rest
theorem dL_rest_0 : decode cL_rest 0 = .ok (.aload_n 2, 1) := by decide +kernel
theorem dL_rest_1 : decode cL_rest 1 = .ok (.iconst 0, 1) := by decide +kernel
theorem dL_rest_2 : decode cL_rest 2 = .ok (.aload_n 0, 1) := by decide +kernel
theorem dL_rest_3 : decode cL_rest 3 = .ok (.iload_n 1, 1) := by decide +kernel
theorem dL_rest_4 : decode cL_rest 4 = .ok (.invokevirtual 32, 3) := by decide +kernel
theorem dL_rest_7 : decode cL_rest 7 = .ok (.i2l, 1) := by decide +kernel
theorem dL_rest_8 : decode cL_rest 8 = .ok (.lastore, 1) := by decide +kernel
theorem dL_rest_9 : decode cL_rest 9 = .ok (.goto 6, 3) := by decide +kernel
theorem dL_rest_12 : decode cL_rest 12 = .ok (.astore_n 3, 1) := by decide +kernel
theorem dL_rest_13 : decode cL_rest 13 = .ok (.iconst 1, 1) := by decide +kernel
theorem dL_rest_14 : decode cL_rest 14 = .ok (.ireturn, 1) := by decide +kernel
theorem dL_rest_15 : decode cL_rest 15 = .ok (.iconst 0, 1) := by decide +kernel
theorem dL_rest_16 : decode cL_rest 16 = .ok (.ireturn, 1) := by decide +kernel
set_option maxRecDepth 20000 in
theorem ggL_isCough_X0_isCough : GoodIn wsL_isCough wsX0_isCough := goodIn_ca (goodIn_r _ [6, 7, 8, 9, 5, 10, 11, 12, 13, 14, 15, 16, 17, 18, 19, 20, 21, 22, 23, 24, 25, 26, 27, 28, 29, 30, 31] (by decide +kernel) (by decide +kernel)) (goodIn_sub (fun _ h => List.mem_cons_of_mem _ (List.mem_append_right _ h)) (by decide +kernel))
set_option maxRecDepth 20000 in
theorem gL_isCough_X0_isCough : GoodIn wsL_isCough (wsV RL 35 RX0 yX0_isCough wsX0_isCough) := goodIn_app (goodIn_of _ (by decide +kernel)) ggL_isCough_X0_isCough
theorem dL_isCough_0 : decode cL_isCough 0 = .ok (.aload_n 2, 1) := by decide +kernel
theorem dL_isCough_1 : decode cL_isCough 1 = .ok (.iconst 0, 1) := by decide +kernel
theorem dL_isCough_2 : decode cL_isCough 2 = .ok (.aload_n 0, 1) := by decide +kernel
theorem dL_isCough_3 : decode cL_isCough 3 = .ok (.iload_n 1, 1) := by decide +kernel
theorem dL_isCough_4 : decode cL_isCough 4 = .ok (.invokevirtual 35, 3) := by decide +kernel
theorem dL_isCough_7 : decode cL_isCough 7 = .ok (.ifCond .eq 7, 3) := by decide +kernel
theorem dL_isCough_10 : decode cL_isCough 10 = .ok (.lconst 1, 1) := by decide +kernel
theorem dL_isCough_11 : decode cL_isCough 11 = .ok (.goto 4, 3) := by decide +kernel
theorem dL_isCough_14 : decode cL_isCough 14 = .ok (.lconst 0, 1) := by decide +kernel
theorem dL_isCough_15 : decode cL_isCough 15 = .ok (.lastore, 1) := by decide +kernel
theorem dL_isCough_16 : decode cL_isCough 16 = .ok (.goto 6, 3) := by decide +kernel
theorem dL_isCough_19 : decode cL_isCough 19 = .ok (.astore_n 3, 1) := by decide +kernel
theorem dL_isCough_20 : decode cL_isCough 20 = .ok (.iconst 1, 1) := by decide +kernel
theorem dL_isCough_21 : decode cL_isCough 21 = .ok (.ireturn, 1) := by decide +kernel
theorem dL_isCough_22 : decode cL_isCough 22 = .ok (.iconst 0, 1) := by decide +kernel
theorem dL_isCough_23 : decode cL_isCough 23 = .ok (.ireturn, 1) := by decide +kernel
set_option maxRecDepth 20000 in
theorem ggL_speakerAt_X0_speakerAt : GoodIn wsL_speakerAt wsX0_speakerAt := goodIn_ca (goodIn_r _ [6, 7, 8, 9, 10, 5, 11, 12, 13, 14, 15, 16, 17, 18, 19, 20, 21, 22, 23, 24, 25, 26, 27] (by decide +kernel) (by decide +kernel)) (goodIn_sub (fun _ h => List.mem_cons_of_mem _ (List.mem_append_right _ h)) (by decide +kernel))
set_option maxRecDepth 20000 in
theorem gL_speakerAt_X0_speakerAt : GoodIn wsL_speakerAt (wsV RL 39 RX0 yX0_speakerAt wsX0_speakerAt) := goodIn_app (goodIn_of _ (by decide +kernel)) ggL_speakerAt_X0_speakerAt
theorem dL_speakerAt_0 : decode cL_speakerAt 0 = .ok (.aload_n 2, 1) := by decide +kernel
theorem dL_speakerAt_1 : decode cL_speakerAt 1 = .ok (.iconst 0, 1) := by decide +kernel
theorem dL_speakerAt_2 : decode cL_speakerAt 2 = .ok (.aload_n 0, 1) := by decide +kernel
theorem dL_speakerAt_3 : decode cL_speakerAt 3 = .ok (.iload_n 1, 1) := by decide +kernel
theorem dL_speakerAt_4 : decode cL_speakerAt 4 = .ok (.invokevirtual 39, 3) := by decide +kernel
theorem dL_speakerAt_7 : decode cL_speakerAt 7 = .ok (.i2l, 1) := by decide +kernel
theorem dL_speakerAt_8 : decode cL_speakerAt 8 = .ok (.lastore, 1) := by decide +kernel
theorem dL_speakerAt_9 : decode cL_speakerAt 9 = .ok (.goto 6, 3) := by decide +kernel
theorem dL_speakerAt_12 : decode cL_speakerAt 12 = .ok (.astore_n 3, 1) := by decide +kernel
theorem dL_speakerAt_13 : decode cL_speakerAt 13 = .ok (.iconst 1, 1) := by decide +kernel
theorem dL_speakerAt_14 : decode cL_speakerAt 14 = .ok (.ireturn, 1) := by decide +kernel
theorem dL_speakerAt_15 : decode cL_speakerAt 15 = .ok (.iconst 0, 1) := by decide +kernel
theorem dL_speakerAt_16 : decode cL_speakerAt 16 = .ok (.ireturn, 1) := by decide +kernel
set_option maxRecDepth 20000 in
theorem ggL_placeOf_X0_placeOf : GoodIn wsL_placeOf wsX0_placeOf := goodIn_ca (goodIn_r _ [6, 7, 8, 9, 10, 5, 11, 12, 13, 14, 15, 16, 17, 18, 19, 20, 21, 22, 23, 24, 25, 26, 27] (by decide +kernel) (by decide +kernel)) (goodIn_sub (fun _ h => List.mem_cons_of_mem _ (List.mem_append_right _ h)) (by decide +kernel))
set_option maxRecDepth 20000 in
theorem gL_placeOf_X0_placeOf : GoodIn wsL_placeOf (wsV RL 42 RX0 yX0_placeOf wsX0_placeOf) := goodIn_app (goodIn_of _ (by decide +kernel)) ggL_placeOf_X0_placeOf
theorem dL_placeOf_0 : decode cL_placeOf 0 = .ok (.aload_n 2, 1) := by decide +kernel
theorem dL_placeOf_1 : decode cL_placeOf 1 = .ok (.iconst 0, 1) := by decide +kernel
theorem dL_placeOf_2 : decode cL_placeOf 2 = .ok (.aload_n 0, 1) := by decide +kernel
theorem dL_placeOf_3 : decode cL_placeOf 3 = .ok (.iload_n 1, 1) := by decide +kernel
theorem dL_placeOf_4 : decode cL_placeOf 4 = .ok (.invokevirtual 42, 3) := by decide +kernel
theorem dL_placeOf_7 : decode cL_placeOf 7 = .ok (.i2l, 1) := by decide +kernel
theorem dL_placeOf_8 : decode cL_placeOf 8 = .ok (.lastore, 1) := by decide +kernel
theorem dL_placeOf_9 : decode cL_placeOf 9 = .ok (.goto 6, 3) := by decide +kernel
theorem dL_placeOf_12 : decode cL_placeOf 12 = .ok (.astore_n 3, 1) := by decide +kernel
theorem dL_placeOf_13 : decode cL_placeOf 13 = .ok (.iconst 1, 1) := by decide +kernel
theorem dL_placeOf_14 : decode cL_placeOf 14 = .ok (.ireturn, 1) := by decide +kernel
theorem dL_placeOf_15 : decode cL_placeOf 15 = .ok (.iconst 0, 1) := by decide +kernel
theorem dL_placeOf_16 : decode cL_placeOf 16 = .ok (.ireturn, 1) := by decide +kernel
set_option maxRecDepth 20000 in
theorem ggL_topicOf_X0_topicOf : GoodIn wsL_topicOf wsX0_topicOf := goodIn_ca (goodIn_r _ [6, 7, 8, 9, 5, 10, 11, 12, 13, 14, 15, 16, 17, 18, 19, 20, 21, 22, 23, 24, 25, 26, 27, 28, 29, 30, 31, 32] (by decide +kernel) (by decide +kernel)) (goodIn_sub (fun _ h => List.mem_cons_of_mem _ (List.mem_append_right _ h)) (by decide +kernel))
set_option maxRecDepth 20000 in
theorem gL_topicOf_X0_topicOf : GoodIn wsL_topicOf (wsV RL 45 RX0 yX0_topicOf wsX0_topicOf) := goodIn_app (goodIn_of _ (by decide +kernel)) ggL_topicOf_X0_topicOf
theorem dL_topicOf_0 : decode cL_topicOf 0 = .ok (.aload_n 2, 1) := by decide +kernel
theorem dL_topicOf_1 : decode cL_topicOf 1 = .ok (.iconst 0, 1) := by decide +kernel
theorem dL_topicOf_2 : decode cL_topicOf 2 = .ok (.aload_n 0, 1) := by decide +kernel
theorem dL_topicOf_3 : decode cL_topicOf 3 = .ok (.iload_n 1, 1) := by decide +kernel
theorem dL_topicOf_4 : decode cL_topicOf 4 = .ok (.invokevirtual 45, 3) := by decide +kernel
theorem dL_topicOf_7 : decode cL_topicOf 7 = .ok (.i2l, 1) := by decide +kernel
theorem dL_topicOf_8 : decode cL_topicOf 8 = .ok (.lastore, 1) := by decide +kernel
theorem dL_topicOf_9 : decode cL_topicOf 9 = .ok (.goto 6, 3) := by decide +kernel
theorem dL_topicOf_12 : decode cL_topicOf 12 = .ok (.astore_n 3, 1) := by decide +kernel
theorem dL_topicOf_13 : decode cL_topicOf 13 = .ok (.iconst 1, 1) := by decide +kernel
theorem dL_topicOf_14 : decode cL_topicOf 14 = .ok (.ireturn, 1) := by decide +kernel
theorem dL_topicOf_15 : decode cL_topicOf 15 = .ok (.iconst 0, 1) := by decide +kernel
theorem dL_topicOf_16 : decode cL_topicOf 16 = .ok (.ireturn, 1) := by decide +kernel
set_option maxRecDepth 20000 in
theorem ggL_wordsOf_X0_wordsOf : GoodIn wsL_wordsOf wsX0_wordsOf := goodIn_ca (goodIn_r _ [6, 7, 8, 9, 5, 10, 11, 12, 13, 14, 15, 16, 17, 18, 19, 20, 21, 22, 23, 24, 25, 26, 27, 28, 29, 30, 31] (by decide +kernel) (by decide +kernel)) (goodIn_sub (fun _ h => List.mem_cons_of_mem _ (List.mem_append_right _ h)) (by decide +kernel))
set_option maxRecDepth 20000 in
theorem gL_wordsOf_X0_wordsOf : GoodIn wsL_wordsOf (wsV RL 48 RX0 yX0_wordsOf wsX0_wordsOf) := goodIn_app (goodIn_of _ (by decide +kernel)) ggL_wordsOf_X0_wordsOf
theorem dL_wordsOf_0 : decode cL_wordsOf 0 = .ok (.aload_n 2, 1) := by decide +kernel
theorem dL_wordsOf_1 : decode cL_wordsOf 1 = .ok (.iconst 0, 1) := by decide +kernel
theorem dL_wordsOf_2 : decode cL_wordsOf 2 = .ok (.aload_n 0, 1) := by decide +kernel
theorem dL_wordsOf_3 : decode cL_wordsOf 3 = .ok (.iload_n 1, 1) := by decide +kernel
theorem dL_wordsOf_4 : decode cL_wordsOf 4 = .ok (.invokevirtual 48, 3) := by decide +kernel
theorem dL_wordsOf_7 : decode cL_wordsOf 7 = .ok (.i2l, 1) := by decide +kernel
theorem dL_wordsOf_8 : decode cL_wordsOf 8 = .ok (.lastore, 1) := by decide +kernel
theorem dL_wordsOf_9 : decode cL_wordsOf 9 = .ok (.goto 6, 3) := by decide +kernel
theorem dL_wordsOf_12 : decode cL_wordsOf 12 = .ok (.astore_n 3, 1) := by decide +kernel
theorem dL_wordsOf_13 : decode cL_wordsOf 13 = .ok (.iconst 1, 1) := by decide +kernel
theorem dL_wordsOf_14 : decode cL_wordsOf 14 = .ok (.ireturn, 1) := by decide +kernel
theorem dL_wordsOf_15 : decode cL_wordsOf 15 = .ok (.iconst 0, 1) := by decide +kernel
theorem dL_wordsOf_16 : decode cL_wordsOf 16 = .ok (.ireturn, 1) := by decide +kernel
set_option maxRecDepth 20000 in
theorem ggL_coughsIn_X0_coughsIn : GoodIn wsL_coughsIn wsX0_coughsIn := goodIn_ca (goodIn_r _ [6, 7, 8, 9, 5, 10, 11, 12, 13, 14, 15, 16, 17, 18, 19, 20, 21, 22, 23, 24, 25, 26, 27, 28, 29, 30, 31, 32, 33, 34, 35] (by decide +kernel) (by decide +kernel)) (goodIn_sub (fun _ h => List.mem_cons_of_mem _ (List.mem_append_right _ h)) (by decide +kernel))
set_option maxRecDepth 20000 in
theorem gL_coughsIn_X0_coughsIn : GoodIn wsL_coughsIn (wsV RL 51 RX0 yX0_coughsIn wsX0_coughsIn) := goodIn_app (goodIn_of _ (by decide +kernel)) ggL_coughsIn_X0_coughsIn
theorem dL_coughsIn_0 : decode cL_coughsIn 0 = .ok (.aload_n 2, 1) := by decide +kernel
theorem dL_coughsIn_1 : decode cL_coughsIn 1 = .ok (.iconst 0, 1) := by decide +kernel
theorem dL_coughsIn_2 : decode cL_coughsIn 2 = .ok (.aload_n 0, 1) := by decide +kernel
theorem dL_coughsIn_3 : decode cL_coughsIn 3 = .ok (.iload_n 1, 1) := by decide +kernel
theorem dL_coughsIn_4 : decode cL_coughsIn 4 = .ok (.invokevirtual 51, 3) := by decide +kernel
theorem dL_coughsIn_7 : decode cL_coughsIn 7 = .ok (.i2l, 1) := by decide +kernel
theorem dL_coughsIn_8 : decode cL_coughsIn 8 = .ok (.lastore, 1) := by decide +kernel
theorem dL_coughsIn_9 : decode cL_coughsIn 9 = .ok (.goto 6, 3) := by decide +kernel
theorem dL_coughsIn_12 : decode cL_coughsIn 12 = .ok (.astore_n 3, 1) := by decide +kernel
theorem dL_coughsIn_13 : decode cL_coughsIn 13 = .ok (.iconst 1, 1) := by decide +kernel
theorem dL_coughsIn_14 : decode cL_coughsIn 14 = .ok (.ireturn, 1) := by decide +kernel
theorem dL_coughsIn_15 : decode cL_coughsIn 15 = .ok (.iconst 0, 1) := by decide +kernel
theorem dL_coughsIn_16 : decode cL_coughsIn 16 = .ok (.ireturn, 1) := by decide +kernel
set_option maxRecDepth 20000 in
theorem ggL_strainOf_X0_strainOf : GoodIn wsL_strainOf wsX0_strainOf := goodIn_ca (goodIn_r _ [6, 7, 8, 9, 5, 10, 11, 12, 13, 14, 15, 16, 17, 18, 19, 20, 21, 22, 23, 24, 25, 26, 27, 28, 29, 30, 31, 32, 33, 34, 35, 36, 37, 38, 39, 40, 41, 42, 43, 44, 45, 46, 47, 48, 49, 50, 51, 52, 53, 54] (by decide +kernel) (by decide +kernel)) (goodIn_sub (fun _ h => List.mem_cons_of_mem _ (List.mem_append_right _ h)) (by decide +kernel))
set_option maxRecDepth 20000 in
theorem gL_strainOf_X0_strainOf : GoodIn wsL_strainOf (wsV RL 54 RX0 yX0_strainOf wsX0_strainOf) := goodIn_app (goodIn_of _ (by decide +kernel)) ggL_strainOf_X0_strainOf
theorem dL_strainOf_0 : decode cL_strainOf 0 = .ok (.aload_n 2, 1) := by decide +kernel
theorem dL_strainOf_1 : decode cL_strainOf 1 = .ok (.iconst 0, 1) := by decide +kernel
theorem dL_strainOf_2 : decode cL_strainOf 2 = .ok (.aload_n 0, 1) := by decide +kernel
theorem dL_strainOf_3 : decode cL_strainOf 3 = .ok (.iload_n 1, 1) := by decide +kernel
theorem dL_strainOf_4 : decode cL_strainOf 4 = .ok (.invokevirtual 54, 3) := by decide +kernel
theorem dL_strainOf_7 : decode cL_strainOf 7 = .ok (.i2l, 1) := by decide +kernel
theorem dL_strainOf_8 : decode cL_strainOf 8 = .ok (.lastore, 1) := by decide +kernel
theorem dL_strainOf_9 : decode cL_strainOf 9 = .ok (.goto 6, 3) := by decide +kernel
theorem dL_strainOf_12 : decode cL_strainOf 12 = .ok (.astore_n 3, 1) := by decide +kernel
theorem dL_strainOf_13 : decode cL_strainOf 13 = .ok (.iconst 1, 1) := by decide +kernel
theorem dL_strainOf_14 : decode cL_strainOf 14 = .ok (.ireturn, 1) := by decide +kernel
theorem dL_strainOf_15 : decode cL_strainOf 15 = .ok (.iconst 0, 1) := by decide +kernel
theorem dL_strainOf_16 : decode cL_strainOf 16 = .ok (.ireturn, 1) := by decide +kernel
set_option maxRecDepth 20000 in
theorem ggL_isTied_X0_isTied : GoodIn wsL_isTied wsX0_isTied := goodIn_ca (goodIn_r _ [6, 7, 8, 9, 5, 10, 11, 12, 13, 14, 15, 16, 17, 18, 19, 20, 21, 22, 23, 24, 25, 26, 27, 28, 29, 30, 31, 32, 33, 34, 35, 36] (by decide +kernel) (by decide +kernel)) (goodIn_sub (fun _ h => List.mem_cons_of_mem _ (List.mem_append_right _ h)) (by decide +kernel))
set_option maxRecDepth 20000 in
theorem gL_isTied_X0_isTied : GoodIn wsL_isTied (wsV RL 57 RX0 yX0_isTied wsX0_isTied) := goodIn_app (goodIn_of _ (by decide +kernel)) ggL_isTied_X0_isTied
theorem dL_isTied_0 : decode cL_isTied 0 = .ok (.aload_n 2, 1) := by decide +kernel
theorem dL_isTied_1 : decode cL_isTied 1 = .ok (.iconst 0, 1) := by decide +kernel
theorem dL_isTied_2 : decode cL_isTied 2 = .ok (.aload_n 0, 1) := by decide +kernel
theorem dL_isTied_3 : decode cL_isTied 3 = .ok (.iload_n 1, 1) := by decide +kernel
theorem dL_isTied_4 : decode cL_isTied 4 = .ok (.invokevirtual 57, 3) := by decide +kernel
theorem dL_isTied_7 : decode cL_isTied 7 = .ok (.ifCond .eq 7, 3) := by decide +kernel
theorem dL_isTied_10 : decode cL_isTied 10 = .ok (.lconst 1, 1) := by decide +kernel
theorem dL_isTied_11 : decode cL_isTied 11 = .ok (.goto 4, 3) := by decide +kernel
theorem dL_isTied_14 : decode cL_isTied 14 = .ok (.lconst 0, 1) := by decide +kernel
theorem dL_isTied_15 : decode cL_isTied 15 = .ok (.lastore, 1) := by decide +kernel
theorem dL_isTied_16 : decode cL_isTied 16 = .ok (.goto 6, 3) := by decide +kernel
theorem dL_isTied_19 : decode cL_isTied 19 = .ok (.astore_n 3, 1) := by decide +kernel
theorem dL_isTied_20 : decode cL_isTied 20 = .ok (.iconst 1, 1) := by decide +kernel
theorem dL_isTied_21 : decode cL_isTied 21 = .ok (.ireturn, 1) := by decide +kernel
theorem dL_isTied_22 : decode cL_isTied 22 = .ok (.iconst 0, 1) := by decide +kernel
theorem dL_isTied_23 : decode cL_isTied 23 = .ok (.ireturn, 1) := by decide +kernel
set_option maxRecDepth 20000 in
theorem ggL_isSmooth_X0_isSmooth : GoodIn wsL_isSmooth wsX0_isSmooth := goodIn_ca (goodIn_r _ [6, 7, 8, 9, 5, 10, 11, 12, 13, 14, 15, 16, 17, 18, 19, 20, 21, 22, 23, 24, 25, 26, 27, 28, 29, 30, 31, 32, 33, 34, 35, 36, 37, 38, 39, 40, 41, 42, 43, 44, 45, 46, 47, 48, 49, 50, 51, 52, 53, 54, 55, 56, 57, 58, 59, 60, 61, 62, 63, 64, 65, 66, 67, 68, 69, 70, 71, 72, 73, 74, 75, 76, 77, 78] (by decide +kernel) (by decide +kernel)) (goodIn_sub (fun _ h => List.mem_cons_of_mem _ (List.mem_append_right _ h)) (by decide +kernel))
set_option maxRecDepth 20000 in
theorem gL_isSmooth_X0_isSmooth : GoodIn wsL_isSmooth (wsV RL 60 RX0 yX0_isSmooth wsX0_isSmooth) := goodIn_app (goodIn_of _ (by decide +kernel)) ggL_isSmooth_X0_isSmooth
theorem dL_isSmooth_0 : decode cL_isSmooth 0 = .ok (.aload_n 2, 1) := by decide +kernel
theorem dL_isSmooth_1 : decode cL_isSmooth 1 = .ok (.iconst 0, 1) := by decide +kernel
theorem dL_isSmooth_2 : decode cL_isSmooth 2 = .ok (.aload_n 0, 1) := by decide +kernel
theorem dL_isSmooth_3 : decode cL_isSmooth 3 = .ok (.iload_n 1, 1) := by decide +kernel
theorem dL_isSmooth_4 : decode cL_isSmooth 4 = .ok (.invokevirtual 60, 3) := by decide +kernel
theorem dL_isSmooth_7 : decode cL_isSmooth 7 = .ok (.ifCond .eq 7, 3) := by decide +kernel
theorem dL_isSmooth_10 : decode cL_isSmooth 10 = .ok (.lconst 1, 1) := by decide +kernel
theorem dL_isSmooth_11 : decode cL_isSmooth 11 = .ok (.goto 4, 3) := by decide +kernel
theorem dL_isSmooth_14 : decode cL_isSmooth 14 = .ok (.lconst 0, 1) := by decide +kernel
theorem dL_isSmooth_15 : decode cL_isSmooth 15 = .ok (.lastore, 1) := by decide +kernel
theorem dL_isSmooth_16 : decode cL_isSmooth 16 = .ok (.goto 6, 3) := by decide +kernel
theorem dL_isSmooth_19 : decode cL_isSmooth 19 = .ok (.astore_n 3, 1) := by decide +kernel
theorem dL_isSmooth_20 : decode cL_isSmooth 20 = .ok (.iconst 1, 1) := by decide +kernel
theorem dL_isSmooth_21 : decode cL_isSmooth 21 = .ok (.ireturn, 1) := by decide +kernel
theorem dL_isSmooth_22 : decode cL_isSmooth 22 = .ok (.iconst 0, 1) := by decide +kernel
theorem dL_isSmooth_23 : decode cL_isSmooth 23 = .ok (.ireturn, 1) := by decide +kernel
set_option maxRecDepth 20000 in
theorem ggL_isPolite_X0_isPolite : GoodIn wsL_isPolite wsX0_isPolite := goodIn_ca (goodIn_r _ [6, 7, 8, 9, 5, 10, 11, 12, 13, 14, 15, 16, 17, 18, 19, 20, 21, 22, 23, 24, 25, 26, 27, 28, 29, 30, 31, 32, 33, 34, 35, 36, 37, 38, 39, 40, 41, 42, 43, 44, 45, 46, 47, 48, 49, 50, 51, 52, 53, 54, 55, 56, 57, 58, 59, 60, 61, 62, 63, 64, 65, 66, 67, 68, 69, 70, 71, 72, 73, 74, 75, 76, 77, 78] (by decide +kernel) (by decide +kernel)) (goodIn_sub (fun _ h => List.mem_cons_of_mem _ (List.mem_append_right _ h)) (by decide +kernel))
set_option maxRecDepth 20000 in
theorem gL_isPolite_X0_isPolite : GoodIn wsL_isPolite (wsV RL 63 RX0 yX0_isPolite wsX0_isPolite) := goodIn_app (goodIn_of _ (by decide +kernel)) ggL_isPolite_X0_isPolite
theorem dL_isPolite_0 : decode cL_isPolite 0 = .ok (.aload_n 2, 1) := by decide +kernel
theorem dL_isPolite_1 : decode cL_isPolite 1 = .ok (.iconst 0, 1) := by decide +kernel
theorem dL_isPolite_2 : decode cL_isPolite 2 = .ok (.aload_n 0, 1) := by decide +kernel
theorem dL_isPolite_3 : decode cL_isPolite 3 = .ok (.iload_n 1, 1) := by decide +kernel
theorem dL_isPolite_4 : decode cL_isPolite 4 = .ok (.invokevirtual 63, 3) := by decide +kernel
theorem dL_isPolite_7 : decode cL_isPolite 7 = .ok (.ifCond .eq 7, 3) := by decide +kernel
theorem dL_isPolite_10 : decode cL_isPolite 10 = .ok (.lconst 1, 1) := by decide +kernel
theorem dL_isPolite_11 : decode cL_isPolite 11 = .ok (.goto 4, 3) := by decide +kernel
theorem dL_isPolite_14 : decode cL_isPolite 14 = .ok (.lconst 0, 1) := by decide +kernel
theorem dL_isPolite_15 : decode cL_isPolite 15 = .ok (.lastore, 1) := by decide +kernel
theorem dL_isPolite_16 : decode cL_isPolite 16 = .ok (.goto 6, 3) := by decide +kernel
theorem dL_isPolite_19 : decode cL_isPolite 19 = .ok (.astore_n 3, 1) := by decide +kernel
theorem dL_isPolite_20 : decode cL_isPolite 20 = .ok (.iconst 1, 1) := by decide +kernel
theorem dL_isPolite_21 : decode cL_isPolite 21 = .ok (.ireturn, 1) := by decide +kernel
theorem dL_isPolite_22 : decode cL_isPolite 22 = .ok (.iconst 0, 1) := by decide +kernel
theorem dL_isPolite_23 : decode cL_isPolite 23 = .ok (.ireturn, 1) := by decide +kernel
set_option maxRecDepth 20000 in
theorem ggL_isBroken_X0_isBroken : GoodIn wsL_isBroken wsX0_isBroken := goodIn_ca (goodIn_r _ [6, 7, 8, 9, 5, 10, 11, 12, 13, 14, 15, 16, 17, 18, 19, 20, 21, 22, 23, 24, 25, 26, 27, 28, 29, 30, 31, 32, 33, 34, 35, 36, 37, 38, 39, 40, 41, 42, 43, 44, 45, 46, 47, 48, 49, 50, 51, 52, 53, 54, 55, 56, 57, 58, 59, 60, 61, 62, 63, 64, 65, 66, 67, 68, 69, 70, 71, 72, 73, 74, 75, 76, 77, 78] (by decide +kernel) (by decide +kernel)) (goodIn_sub (fun _ h => List.mem_cons_of_mem _ (List.mem_append_right _ h)) (by decide +kernel))
set_option maxRecDepth 20000 in
theorem gL_isBroken_X0_isBroken : GoodIn wsL_isBroken (wsV RL 66 RX0 yX0_isBroken wsX0_isBroken) := goodIn_app (goodIn_of _ (by decide +kernel)) ggL_isBroken_X0_isBroken
theorem dL_isBroken_0 : decode cL_isBroken 0 = .ok (.aload_n 2, 1) := by decide +kernel
theorem dL_isBroken_1 : decode cL_isBroken 1 = .ok (.iconst 0, 1) := by decide +kernel
theorem dL_isBroken_2 : decode cL_isBroken 2 = .ok (.aload_n 0, 1) := by decide +kernel
theorem dL_isBroken_3 : decode cL_isBroken 3 = .ok (.iload_n 1, 1) := by decide +kernel
theorem dL_isBroken_4 : decode cL_isBroken 4 = .ok (.invokevirtual 66, 3) := by decide +kernel
theorem dL_isBroken_7 : decode cL_isBroken 7 = .ok (.ifCond .eq 7, 3) := by decide +kernel
theorem dL_isBroken_10 : decode cL_isBroken 10 = .ok (.lconst 1, 1) := by decide +kernel
theorem dL_isBroken_11 : decode cL_isBroken 11 = .ok (.goto 4, 3) := by decide +kernel
theorem dL_isBroken_14 : decode cL_isBroken 14 = .ok (.lconst 0, 1) := by decide +kernel
theorem dL_isBroken_15 : decode cL_isBroken 15 = .ok (.lastore, 1) := by decide +kernel
theorem dL_isBroken_16 : decode cL_isBroken 16 = .ok (.goto 6, 3) := by decide +kernel
theorem dL_isBroken_19 : decode cL_isBroken 19 = .ok (.astore_n 3, 1) := by decide +kernel
theorem dL_isBroken_20 : decode cL_isBroken 20 = .ok (.iconst 1, 1) := by decide +kernel
theorem dL_isBroken_21 : decode cL_isBroken 21 = .ok (.ireturn, 1) := by decide +kernel
theorem dL_isBroken_22 : decode cL_isBroken 22 = .ok (.iconst 0, 1) := by decide +kernel
theorem dL_isBroken_23 : decode cL_isBroken 23 = .ok (.ireturn, 1) := by decide +kernel
set_option maxRecDepth 20000 in
theorem ggL_threadOf_X0_threadOf : GoodIn wsL_threadOf wsX0_threadOf := goodIn_ca (goodIn_r _ [6, 7, 8, 9, 5, 10, 11, 12, 13, 14, 15, 16, 17, 18, 19, 20, 21, 22, 23, 24, 25, 26, 27, 28, 29, 30, 31] (by decide +kernel) (by decide +kernel)) (goodIn_sub (fun _ h => List.mem_cons_of_mem _ (List.mem_append_right _ h)) (by decide +kernel))
set_option maxRecDepth 20000 in
theorem gL_threadOf_X0_threadOf : GoodIn wsL_threadOf (wsV RL 69 RX0 yX0_threadOf wsX0_threadOf) := goodIn_app (goodIn_of _ (by decide +kernel)) ggL_threadOf_X0_threadOf
theorem dL_threadOf_0 : decode cL_threadOf 0 = .ok (.aload_n 2, 1) := by decide +kernel
theorem dL_threadOf_1 : decode cL_threadOf 1 = .ok (.iconst 0, 1) := by decide +kernel
theorem dL_threadOf_2 : decode cL_threadOf 2 = .ok (.aload_n 0, 1) := by decide +kernel
theorem dL_threadOf_3 : decode cL_threadOf 3 = .ok (.iload_n 1, 1) := by decide +kernel
theorem dL_threadOf_4 : decode cL_threadOf 4 = .ok (.invokevirtual 69, 3) := by decide +kernel
theorem dL_threadOf_7 : decode cL_threadOf 7 = .ok (.i2l, 1) := by decide +kernel
theorem dL_threadOf_8 : decode cL_threadOf 8 = .ok (.lastore, 1) := by decide +kernel
theorem dL_threadOf_9 : decode cL_threadOf 9 = .ok (.goto 6, 3) := by decide +kernel
theorem dL_threadOf_12 : decode cL_threadOf 12 = .ok (.astore_n 3, 1) := by decide +kernel
theorem dL_threadOf_13 : decode cL_threadOf 13 = .ok (.iconst 1, 1) := by decide +kernel
theorem dL_threadOf_14 : decode cL_threadOf 14 = .ok (.ireturn, 1) := by decide +kernel
theorem dL_threadOf_15 : decode cL_threadOf 15 = .ok (.iconst 0, 1) := by decide +kernel
theorem dL_threadOf_16 : decode cL_threadOf 16 = .ok (.ireturn, 1) := by decide +kernel
set_option maxRecDepth 20000 in
theorem ggL_lengthOf_X0_lengthOf : GoodIn wsL_lengthOf wsX0_lengthOf := goodIn_ca (goodIn_r _ [6, 7, 8, 9, 5, 10, 11, 12, 13, 14, 15, 16, 17, 18, 19, 20, 21, 22, 23, 24, 25, 26, 27, 28, 29, 30, 31, 32, 33, 34, 35, 36] (by decide +kernel) (by decide +kernel)) (goodIn_sub (fun _ h => List.mem_cons_of_mem _ (List.mem_append_right _ h)) (by decide +kernel))
set_option maxRecDepth 20000 in
theorem gL_lengthOf_X0_lengthOf : GoodIn wsL_lengthOf (wsV RL 72 RX0 yX0_lengthOf wsX0_lengthOf) := goodIn_app (goodIn_of _ (by decide +kernel)) ggL_lengthOf_X0_lengthOf
theorem dL_lengthOf_0 : decode cL_lengthOf 0 = .ok (.aload_n 2, 1) := by decide +kernel
theorem dL_lengthOf_1 : decode cL_lengthOf 1 = .ok (.iconst 0, 1) := by decide +kernel
theorem dL_lengthOf_2 : decode cL_lengthOf 2 = .ok (.aload_n 0, 1) := by decide +kernel
theorem dL_lengthOf_3 : decode cL_lengthOf 3 = .ok (.iload_n 1, 1) := by decide +kernel
theorem dL_lengthOf_4 : decode cL_lengthOf 4 = .ok (.invokevirtual 72, 3) := by decide +kernel
theorem dL_lengthOf_7 : decode cL_lengthOf 7 = .ok (.i2l, 1) := by decide +kernel
theorem dL_lengthOf_8 : decode cL_lengthOf 8 = .ok (.lastore, 1) := by decide +kernel
theorem dL_lengthOf_9 : decode cL_lengthOf 9 = .ok (.goto 6, 3) := by decide +kernel
theorem dL_lengthOf_12 : decode cL_lengthOf 12 = .ok (.astore_n 3, 1) := by decide +kernel
theorem dL_lengthOf_13 : decode cL_lengthOf 13 = .ok (.iconst 1, 1) := by decide +kernel
theorem dL_lengthOf_14 : decode cL_lengthOf 14 = .ok (.ireturn, 1) := by decide +kernel
theorem dL_lengthOf_15 : decode cL_lengthOf 15 = .ok (.iconst 0, 1) := by decide +kernel
theorem dL_lengthOf_16 : decode cL_lengthOf 16 = .ok (.ireturn, 1) := by decide +kernel
set_option maxRecDepth 20000 in
theorem ggL_threadsOf_X0_threadsOf : GoodIn wsL_threadsOf wsX0_threadsOf := goodIn_ca (goodIn_r _ [6, 7, 8, 9, 5, 10, 11, 12, 13, 14, 15, 16, 17, 18, 19, 20, 21, 22, 23, 24, 25, 26, 27, 28, 29, 30, 31, 32, 33, 34, 35, 36] (by decide +kernel) (by decide +kernel)) (goodIn_sub (fun _ h => List.mem_cons_of_mem _ (List.mem_append_right _ h)) (by decide +kernel))
set_option maxRecDepth 20000 in
theorem gL_threadsOf_X0_threadsOf : GoodIn wsL_threadsOf (wsV RL 75 RX0 yX0_threadsOf wsX0_threadsOf) := goodIn_app (goodIn_of _ (by decide +kernel)) ggL_threadsOf_X0_threadsOf
theorem dL_threadsOf_0 : decode cL_threadsOf 0 = .ok (.aload_n 2, 1) := by decide +kernel
theorem dL_threadsOf_1 : decode cL_threadsOf 1 = .ok (.iconst 0, 1) := by decide +kernel
theorem dL_threadsOf_2 : decode cL_threadsOf 2 = .ok (.aload_n 0, 1) := by decide +kernel
theorem dL_threadsOf_3 : decode cL_threadsOf 3 = .ok (.iload_n 1, 1) := by decide +kernel
theorem dL_threadsOf_4 : decode cL_threadsOf 4 = .ok (.invokevirtual 75, 3) := by decide +kernel
theorem dL_threadsOf_7 : decode cL_threadsOf 7 = .ok (.i2l, 1) := by decide +kernel
theorem dL_threadsOf_8 : decode cL_threadsOf 8 = .ok (.lastore, 1) := by decide +kernel
theorem dL_threadsOf_9 : decode cL_threadsOf 9 = .ok (.goto 6, 3) := by decide +kernel
theorem dL_threadsOf_12 : decode cL_threadsOf 12 = .ok (.astore_n 3, 1) := by decide +kernel
theorem dL_threadsOf_13 : decode cL_threadsOf 13 = .ok (.iconst 1, 1) := by decide +kernel
theorem dL_threadsOf_14 : decode cL_threadsOf 14 = .ok (.ireturn, 1) := by decide +kernel
theorem dL_threadsOf_15 : decode cL_threadsOf 15 = .ok (.iconst 0, 1) := by decide +kernel
theorem dL_threadsOf_16 : decode cL_threadsOf 16 = .ok (.ireturn, 1) := by decide +kernel
set_option maxRecDepth 20000 in
theorem ggL_topicsIn_X0_topicsIn : GoodIn wsL_topicsIn wsX0_topicsIn := goodIn_ca (goodIn_r _ [6, 7, 8, 9, 10, 5, 11, 12, 13, 14, 15, 16, 17, 18, 19, 20, 21, 22, 23, 24, 25, 26, 27, 28, 29, 30, 31, 32, 33, 34, 35, 36, 37, 38, 39, 40, 41, 42, 43, 44, 45] (by decide +kernel) (by decide +kernel)) (goodIn_sub (fun _ h => List.mem_cons_of_mem _ (List.mem_append_right _ h)) (by decide +kernel))
set_option maxRecDepth 20000 in
theorem gL_topicsIn_X0_topicsIn : GoodIn wsL_topicsIn (wsV RL 78 RX0 yX0_topicsIn wsX0_topicsIn) := goodIn_app (goodIn_of _ (by decide +kernel)) ggL_topicsIn_X0_topicsIn
theorem dL_topicsIn_0 : decode cL_topicsIn 0 = .ok (.aload_n 2, 1) := by decide +kernel
theorem dL_topicsIn_1 : decode cL_topicsIn 1 = .ok (.iconst 0, 1) := by decide +kernel
theorem dL_topicsIn_2 : decode cL_topicsIn 2 = .ok (.aload_n 0, 1) := by decide +kernel
theorem dL_topicsIn_3 : decode cL_topicsIn 3 = .ok (.iload_n 1, 1) := by decide +kernel
theorem dL_topicsIn_4 : decode cL_topicsIn 4 = .ok (.invokevirtual 78, 3) := by decide +kernel
theorem dL_topicsIn_7 : decode cL_topicsIn 7 = .ok (.i2l, 1) := by decide +kernel
theorem dL_topicsIn_8 : decode cL_topicsIn 8 = .ok (.lastore, 1) := by decide +kernel
theorem dL_topicsIn_9 : decode cL_topicsIn 9 = .ok (.goto 6, 3) := by decide +kernel
theorem dL_topicsIn_12 : decode cL_topicsIn 12 = .ok (.astore_n 3, 1) := by decide +kernel
theorem dL_topicsIn_13 : decode cL_topicsIn 13 = .ok (.iconst 1, 1) := by decide +kernel
theorem dL_topicsIn_14 : decode cL_topicsIn 14 = .ok (.ireturn, 1) := by decide +kernel
theorem dL_topicsIn_15 : decode cL_topicsIn 15 = .ok (.iconst 0, 1) := by decide +kernel
theorem dL_topicsIn_16 : decode cL_topicsIn 16 = .ok (.ireturn, 1) := by decide +kernel
set_option maxRecDepth 20000 in
theorem ggL_costOfMending_X0_costOfMending : GoodIn wsL_costOfMending wsX0_costOfMending := goodIn_ca (goodIn_r _ [6, 7, 8, 9, 5, 10, 11, 12, 13, 14, 15, 16, 17, 18, 19, 20, 21, 22, 23, 24, 25, 26, 27, 28, 29, 30, 31, 32, 33, 34, 35, 36, 37, 38, 39, 40, 41, 42, 43, 44, 45, 46, 47, 48, 49, 50, 51, 52, 53, 54, 55, 56, 57, 58, 59, 60, 61, 62, 63, 64, 65, 66, 67, 68, 69, 70, 71, 72, 73, 74, 75, 76, 77, 78, 79, 80, 81, 82] (by decide +kernel) (by decide +kernel)) (goodIn_sub (fun _ h => List.mem_cons_of_mem _ (List.mem_append_right _ h)) (by decide +kernel))
set_option maxRecDepth 20000 in
theorem gL_costOfMending_X0_costOfMending : GoodIn wsL_costOfMending (wsV RL 81 RX0 yX0_costOfMending wsX0_costOfMending) := goodIn_app (goodIn_of _ (by decide +kernel)) ggL_costOfMending_X0_costOfMending
theorem dL_costOfMending_0 : decode cL_costOfMending 0 = .ok (.aload_n 2, 1) := by decide +kernel
theorem dL_costOfMending_1 : decode cL_costOfMending 1 = .ok (.iconst 0, 1) := by decide +kernel
theorem dL_costOfMending_2 : decode cL_costOfMending 2 = .ok (.aload_n 0, 1) := by decide +kernel
theorem dL_costOfMending_3 : decode cL_costOfMending 3 = .ok (.iload_n 1, 1) := by decide +kernel
theorem dL_costOfMending_4 : decode cL_costOfMending 4 = .ok (.invokevirtual 81, 3) := by decide +kernel
theorem dL_costOfMending_7 : decode cL_costOfMending 7 = .ok (.i2l, 1) := by decide +kernel
theorem dL_costOfMending_8 : decode cL_costOfMending 8 = .ok (.lastore, 1) := by decide +kernel
theorem dL_costOfMending_9 : decode cL_costOfMending 9 = .ok (.goto 6, 3) := by decide +kernel
theorem dL_costOfMending_12 : decode cL_costOfMending 12 = .ok (.astore_n 3, 1) := by decide +kernel
theorem dL_costOfMending_13 : decode cL_costOfMending 13 = .ok (.iconst 1, 1) := by decide +kernel
theorem dL_costOfMending_14 : decode cL_costOfMending 14 = .ok (.ireturn, 1) := by decide +kernel
theorem dL_costOfMending_15 : decode cL_costOfMending 15 = .ok (.iconst 0, 1) := by decide +kernel
theorem dL_costOfMending_16 : decode cL_costOfMending 16 = .ok (.ireturn, 1) := by decide +kernel
set_option maxRecDepth 20000 in
theorem ggL_brokenAfterSplice_X0_brokenAfterSplice : GoodIn wsL_brokenAfterSplice wsX0_brokenAfterSplice := goodIn_ca (goodIn_ca (goodIn_r _ [7, 8, 9, 10, 6, 11, 12, 13, 14, 15, 16, 17, 18, 19, 20, 21, 22, 23, 24, 25, 26, 27, 28, 29, 30, 31, 32, 33, 34, 35, 36, 37, 38, 39, 40, 41, 42, 43, 44, 45, 46, 47, 48, 49, 50, 51, 52, 53, 54, 55, 56, 57, 58, 59, 60, 61, 62, 63, 64, 65, 66, 67, 68, 69, 70, 71, 72, 73, 74, 75, 76, 77, 78, 79, 80, 81, 82, 83, 84, 85, 86, 87, 88, 89, 90, 91, 92, 93, 94, 95, 96, 97, 98, 99, 100] (by decide +kernel) (by decide +kernel)) (goodIn_sub (fun _ h => List.mem_cons_of_mem _ (List.mem_append_left _ (List.mem_append_right _ h))) (by decide +kernel))) (goodIn_sub (fun _ h => List.mem_cons_of_mem _ (List.mem_append_right _ h)) (by decide +kernel))
set_option maxRecDepth 20000 in
theorem gL_brokenAfterSplice_X0_brokenAfterSplice : GoodIn wsL_brokenAfterSplice (wsV RL 84 RX0 yX0_brokenAfterSplice wsX0_brokenAfterSplice) := goodIn_app (goodIn_of _ (by decide +kernel)) ggL_brokenAfterSplice_X0_brokenAfterSplice
theorem dL_brokenAfterSplice_0 : decode cL_brokenAfterSplice 0 = .ok (.aload_n 2, 1) := by decide +kernel
theorem dL_brokenAfterSplice_1 : decode cL_brokenAfterSplice 1 = .ok (.iconst 0, 1) := by decide +kernel
theorem dL_brokenAfterSplice_2 : decode cL_brokenAfterSplice 2 = .ok (.aload_n 0, 1) := by decide +kernel
theorem dL_brokenAfterSplice_3 : decode cL_brokenAfterSplice 3 = .ok (.iload_n 1, 1) := by decide +kernel
theorem dL_brokenAfterSplice_4 : decode cL_brokenAfterSplice 4 = .ok (.invokevirtual 84, 3) := by decide +kernel
theorem dL_brokenAfterSplice_7 : decode cL_brokenAfterSplice 7 = .ok (.i2l, 1) := by decide +kernel
theorem dL_brokenAfterSplice_8 : decode cL_brokenAfterSplice 8 = .ok (.lastore, 1) := by decide +kernel
theorem dL_brokenAfterSplice_9 : decode cL_brokenAfterSplice 9 = .ok (.goto 9, 3) := by decide +kernel
theorem dL_brokenAfterSplice_12 : decode cL_brokenAfterSplice 12 = .ok (.astore_n 3, 1) := by decide +kernel
theorem dL_brokenAfterSplice_13 : decode cL_brokenAfterSplice 13 = .ok (.iconst 1, 1) := by decide +kernel
theorem dL_brokenAfterSplice_14 : decode cL_brokenAfterSplice 14 = .ok (.ireturn, 1) := by decide +kernel
theorem dL_brokenAfterSplice_15 : decode cL_brokenAfterSplice 15 = .ok (.astore_n 3, 1) := by decide +kernel
theorem dL_brokenAfterSplice_16 : decode cL_brokenAfterSplice 16 = .ok (.iconst 2, 1) := by decide +kernel
theorem dL_brokenAfterSplice_17 : decode cL_brokenAfterSplice 17 = .ok (.ireturn, 1) := by decide +kernel
theorem dL_brokenAfterSplice_18 : decode cL_brokenAfterSplice 18 = .ok (.iconst 0, 1) := by decide +kernel
theorem dL_brokenAfterSplice_19 : decode cL_brokenAfterSplice 19 = .ok (.ireturn, 1) := by decide +kernel
set_option maxRecDepth 20000 in
theorem ggL_wouldBreak_X0_wouldBreak : GoodIn wsL_wouldBreak wsX0_wouldBreak := goodIn_ca (goodIn_ca (goodIn_r _ [7, 8, 9, 10, 11, 12, 6, 13, 14, 15, 16, 17, 18, 19, 20, 21, 22, 23, 24, 25, 26, 27, 28, 29, 30, 31, 32, 33, 34, 35, 36, 37, 38, 39, 40, 41, 42, 43, 44, 45, 46, 47, 48, 49, 50, 51, 52, 53, 54, 55, 56, 57, 58, 59] (by decide +kernel) (by decide +kernel)) (goodIn_sub (fun _ h => List.mem_cons_of_mem _ (List.mem_append_left _ (List.mem_append_right _ h))) (by decide +kernel))) (goodIn_sub (fun _ h => List.mem_cons_of_mem _ (List.mem_append_right _ h)) (by decide +kernel))
set_option maxRecDepth 20000 in
theorem gL_wouldBreak_X0_wouldBreak : GoodIn wsL_wouldBreak (wsV RL 87 RX0 yX0_wouldBreak wsX0_wouldBreak) := goodIn_app (goodIn_of _ (by decide +kernel)) ggL_wouldBreak_X0_wouldBreak
theorem dL_wouldBreak_0 : decode cL_wouldBreak 0 = .ok (.aload_n 3, 1) := by decide +kernel
theorem dL_wouldBreak_1 : decode cL_wouldBreak 1 = .ok (.iconst 0, 1) := by decide +kernel
theorem dL_wouldBreak_2 : decode cL_wouldBreak 2 = .ok (.aload_n 0, 1) := by decide +kernel
theorem dL_wouldBreak_3 : decode cL_wouldBreak 3 = .ok (.iload_n 1, 1) := by decide +kernel
theorem dL_wouldBreak_4 : decode cL_wouldBreak 4 = .ok (.iload_n 2, 1) := by decide +kernel
theorem dL_wouldBreak_5 : decode cL_wouldBreak 5 = .ok (.invokevirtual 87, 3) := by decide +kernel
theorem dL_wouldBreak_8 : decode cL_wouldBreak 8 = .ok (.ifCond .eq 7, 3) := by decide +kernel
theorem dL_wouldBreak_11 : decode cL_wouldBreak 11 = .ok (.lconst 1, 1) := by decide +kernel
theorem dL_wouldBreak_12 : decode cL_wouldBreak 12 = .ok (.goto 4, 3) := by decide +kernel
theorem dL_wouldBreak_15 : decode cL_wouldBreak 15 = .ok (.lconst 0, 1) := by decide +kernel
theorem dL_wouldBreak_16 : decode cL_wouldBreak 16 = .ok (.lastore, 1) := by decide +kernel
theorem dL_wouldBreak_17 : decode cL_wouldBreak 17 = .ok (.goto 11, 3) := by decide +kernel
theorem dL_wouldBreak_20 : decode cL_wouldBreak 20 = .ok (.astore 4, 2) := by decide +kernel
theorem dL_wouldBreak_22 : decode cL_wouldBreak 22 = .ok (.iconst 1, 1) := by decide +kernel
theorem dL_wouldBreak_23 : decode cL_wouldBreak 23 = .ok (.ireturn, 1) := by decide +kernel
theorem dL_wouldBreak_24 : decode cL_wouldBreak 24 = .ok (.astore 4, 2) := by decide +kernel
theorem dL_wouldBreak_26 : decode cL_wouldBreak 26 = .ok (.iconst 2, 1) := by decide +kernel
theorem dL_wouldBreak_27 : decode cL_wouldBreak 27 = .ok (.ireturn, 1) := by decide +kernel
theorem dL_wouldBreak_28 : decode cL_wouldBreak 28 = .ok (.iconst 0, 1) := by decide +kernel
theorem dL_wouldBreak_29 : decode cL_wouldBreak 29 = .ok (.ireturn, 1) := by decide +kernel
set_option maxRecDepth 20000 in
theorem ggL_law_X0_init : GoodIn wsL_law wsX0_init := goodIn_r _ [9, 10, 11, 12, 13, 14, 15, 16, 17, 18, 19, 737, 738, 739, 740, 741, 742, 743, 744, 745, 746] (by decide +kernel) (by decide +kernel)
set_option maxRecDepth 20000 in
theorem gL_law_X0_init : GoodIn wsL_law (wsX0_init) := ggL_law_X0_init
set_option maxRecDepth 20000 in
theorem ggL_law_X1_init : GoodIn wsL_law wsX1_init := goodIn_r _ [22, 23, 11, 12, 24, 13, 25, 26, 27, 28, 747, 748, 749, 750, 751, 752, 753] (by decide +kernel) (by decide +kernel)
set_option maxRecDepth 20000 in
theorem gL_law_X1_init : GoodIn wsL_law (wsX1_init) := ggL_law_X1_init
set_option maxRecDepth 20000 in
theorem ggL_law_L_say : GoodIn wsL_law wsL_say := goodIn_ca (goodIn_ca (goodIn_ca (goodIn_r _ [32, 33, 34, 35, 36, 37, 38, 2, 39, 40, 41, 42, 43, 44, 45, 46, 47, 48, 49, 50, 51, 52, 53, 54, 55, 56, 57, 58, 59, 60, 61, 62, 63, 64, 14, 15, 16, 65, 66, 67, 68, 69, 70, 71, 72, 17, 73, 18, 74, 75, 76, 77, 78, 79, 80, 81, 82, 83, 84, 85, 86, 87, 88, 89, 90, 91, 92, 93, 94, 95, 96, 97, 98, 99, 100, 101, 102, 103, 104, 105, 106, 107, 108, 109, 110, 111, 112, 113, 114, 115, 116, 117, 118, 119, 120, 121, 122, 123, 124, 737, 738, 739, 740, 741, 742, 743, 744, 745, 746] (by decide +kernel) (by decide +kernel)) (goodIn_sub (fun _ h => List.mem_append_left _ (List.mem_append_left _ (List.mem_append_right _ h))) (by decide +kernel))) (goodIn_sub (fun _ h => List.mem_append_left _ (List.mem_append_right _ h)) (by decide +kernel))) (goodIn_sub (fun _ h => List.mem_append_right _ h) (by decide +kernel))
set_option maxRecDepth 20000 in
theorem gL_law_L_say : GoodIn wsL_law (va_wsS RL 95 yL_say wsL_say) := goodIn_app (goodIn_of _ (by decide +kernel)) ggL_law_L_say
set_option maxRecDepth 20000 in
theorem ggL_law_X1_say : GoodIn wsL_law wsX1_say := goodIn_r _ [128, 129, 130, 131, 132, 5, 133, 134, 135, 136, 137, 138, 139, 140, 141, 142, 143, 144, 25, 26, 28, 747, 748, 749, 750, 751, 752, 753] (by decide +kernel) (by decide +kernel)
set_option maxRecDepth 20000 in
theorem gL_law_X1_say : GoodIn wsL_law (wsV RL 100 RX1 yX1_say wsX1_say) := goodIn_app (goodIn_of _ (by decide +kernel)) ggL_law_X1_say
set_option maxRecDepth 20000 in
theorem ggL_law_X1_thrown : GoodIn wsL_law wsX1_thrown := goodIn_r _ [148, 129, 747, 748, 749, 750, 751, 752, 753] (by decide +kernel) (by decide +kernel)
set_option maxRecDepth 20000 in
theorem gL_law_X1_thrown : GoodIn wsL_law (wsV RL 101 RX1 yX1_thrown wsX1_thrown) := goodIn_app (goodIn_of _ (by decide +kernel)) ggL_law_X1_thrown
set_option maxRecDepth 20000 in
theorem ggL_law_L_cough : GoodIn wsL_law wsL_cough := goodIn_ca (goodIn_ca (goodIn_r _ [151, 33, 35, 152, 153, 154, 2, 155, 40, 41, 42, 43, 44, 50, 51, 52, 53, 54, 55, 56, 57, 58, 59, 60, 61, 62, 63, 64, 14, 15, 16, 65, 66, 67, 68, 69, 70, 71, 72, 17, 73, 18, 74, 75, 76, 77, 78, 79, 80, 81, 82, 83, 84, 85, 86, 87, 88, 89, 90, 91, 92, 93, 94, 95, 96, 97, 98, 99, 100, 101, 102, 103, 104, 105, 106, 107, 108, 109, 110, 111, 112, 113, 114, 115, 116, 117, 118, 119, 120, 121, 122, 123, 124, 737, 738, 739, 740, 741, 742, 743, 744, 745, 746] (by decide +kernel) (by decide +kernel)) (goodIn_sub (fun _ h => List.mem_append_left _ (List.mem_append_left _ (List.mem_append_right _ h))) (by decide +kernel))) (goodIn_sub (fun _ h => List.mem_append_right _ h) (by decide +kernel))
set_option maxRecDepth 20000 in
theorem gL_law_L_cough : GoodIn wsL_law (va_wsS RL 105 yL_cough wsL_cough) := goodIn_app (goodIn_of _ (by decide +kernel)) ggL_law_L_cough
set_option maxRecDepth 20000 in
theorem ggL_law_X1_cough : GoodIn wsL_law wsX1_cough := goodIn_r _ [159, 129, 130, 131, 132, 5, 133, 134, 135, 136, 137, 138, 139, 140, 141, 142, 143, 144, 25, 26, 28, 747, 748, 749, 750, 751, 752, 753] (by decide +kernel) (by decide +kernel)
set_option maxRecDepth 20000 in
theorem gL_law_X1_cough : GoodIn wsL_law (wsV RL 108 RX1 yX1_cough wsX1_cough) := goodIn_app (goodIn_of _ (by decide +kernel)) ggL_law_X1_cough
set_option maxRecDepth 20000 in
theorem ggL_law_L_removeCough : GoodIn wsL_law wsL_removeCough := goodIn_ca (goodIn_ca (goodIn_r _ [162, 33, 35, 163, 164, 165, 2, 166, 54, 55, 56, 167, 168, 169, 170, 43, 44, 74, 75, 76, 77, 15, 78, 79, 80, 171, 172, 173, 174, 19, 175, 176, 177, 178, 179, 180, 181, 182, 183, 184, 185, 186, 187, 14, 16, 65, 66, 67, 68, 69, 70, 71, 72, 17, 73, 18, 81, 82, 83, 84, 85, 86, 87, 88, 89, 90, 91, 92, 93, 94, 95, 96, 97, 98, 99, 100, 101, 102, 103, 104, 105, 106, 107, 108, 109, 110, 111, 112, 113, 114, 115, 116, 117, 118, 119, 120, 121, 122, 123, 124, 737, 738, 739, 740, 741, 742, 743, 744, 745, 746] (by decide +kernel) (by decide +kernel)) (goodIn_sub (fun _ h => List.mem_append_right _ h) (by decide +kernel))) (goodIn_sub (fun _ h => List.mem_append_left _ (List.mem_append_left _ (List.mem_append_right _ h))) (by decide +kernel))
set_option maxRecDepth 20000 in
theorem gL_law_L_removeCough : GoodIn wsL_law (va_wsS RL 109 yL_removeCough wsL_removeCough) := goodIn_app (goodIn_of _ (by decide +kernel)) ggL_law_L_removeCough
set_option maxRecDepth 20000 in
theorem ggL_law_X1_removeCough : GoodIn wsL_law wsX1_removeCough := goodIn_r _ [191, 129, 25, 24, 130, 192, 193, 194, 5, 195, 134, 135, 136, 137, 138, 139, 140, 196, 197, 198, 199, 200, 201, 202, 203, 26, 28, 204, 205, 206, 207, 208, 747, 748, 749, 750, 751, 752, 753] (by decide +kernel) (by decide +kernel)
set_option maxRecDepth 20000 in
theorem gL_law_X1_removeCough : GoodIn wsL_law (wsV RL 111 RX1 yX1_removeCough wsX1_removeCough) := goodIn_app (goodIn_of _ (by decide +kernel)) ggL_law_X1_removeCough
set_option maxRecDepth 20000 in
theorem ggL_law_L_tie : GoodIn wsL_law wsL_tie := goodIn_ca (goodIn_ca (goodIn_r _ [211, 33, 35, 212, 213, 214, 2, 215, 16, 17, 73, 216, 217, 218, 219, 43, 44, 220, 221, 222, 223, 72, 224, 225, 226, 227, 54, 55, 85, 86, 87, 88, 78, 79, 80, 171, 172, 173, 174, 19, 175, 176, 177, 178, 179, 65, 66, 67, 68, 69, 70, 71, 56, 18, 74, 75, 76, 77, 15, 81, 82, 83, 84, 89, 90, 91, 92, 93, 94, 95, 96, 97, 98, 99, 100, 101, 102, 103, 104, 105, 106, 107, 108, 109, 110, 111, 112, 113, 114, 115, 116, 117, 118, 14, 119, 120, 121, 122, 123, 124, 737, 738, 739, 740, 741, 742, 743, 744, 745, 746] (by decide +kernel) (by decide +kernel)) (goodIn_sub (fun _ h => List.mem_append_left _ (List.mem_append_left _ (List.mem_append_right _ h))) (by decide +kernel))) (goodIn_sub (fun _ h => List.mem_append_right _ h) (by decide +kernel))
set_option maxRecDepth 20000 in
theorem gL_law_L_tie : GoodIn wsL_law (va_wsS RL 112 yL_tie wsL_tie) := goodIn_app (goodIn_of _ (by decide +kernel)) ggL_law_L_tie
set_option maxRecDepth 20000 in
theorem ggL_law_X1_tie : GoodIn wsL_law wsX1_tie := goodIn_r _ [231, 129, 28, 24, 232, 233, 234, 5, 235, 236, 237, 238, 239, 130, 25, 134, 135, 136, 137, 138, 139, 140, 240, 241, 242, 243, 244, 245, 246, 247, 204, 205, 206, 207, 208, 248, 249, 250, 251, 252, 253, 254, 255, 256, 257, 258, 259, 260, 261, 262, 263, 264, 265, 266, 267, 268, 269, 270, 271, 101, 102, 103, 272, 105, 106, 273, 274, 275, 276, 277, 278, 279, 280, 26, 281, 282, 283, 747, 748, 749, 750, 751, 752, 753] (by decide +kernel) (by decide +kernel)
set_option maxRecDepth 20000 in
theorem gL_law_X1_tie : GoodIn wsL_law (wsV RL 114 RX1 yX1_tie wsX1_tie) := goodIn_app (goodIn_of _ (by decide +kernel)) ggL_law_X1_tie
set_option maxRecDepth 20000 in
theorem ggL_law_L_splice : GoodIn wsL_law wsL_splice := goodIn_ca (goodIn_ca (goodIn_r _ [286, 33, 35, 287, 288, 289, 2, 290, 17, 216, 217, 218, 219, 43, 44, 220, 221, 222, 223, 72, 224, 225, 226, 227, 54, 55, 85, 86, 87, 88, 16, 78, 79, 80, 50, 51, 52, 53, 56, 171, 172, 173, 174, 19, 175, 176, 177, 178, 179, 115, 116, 117, 118, 14, 93, 94, 95, 96, 15, 291, 292, 293, 97, 98, 99, 100, 101, 102, 103, 104, 105, 106, 294, 295, 296, 297, 298, 299, 300, 301, 184, 185, 186, 187, 65, 66, 67, 61, 62, 63, 64, 68, 69, 70, 71, 73, 18, 74, 75, 76, 77, 81, 82, 83, 84, 89, 90, 91, 92, 107, 108, 109, 110, 111, 112, 113, 114, 119, 120, 121, 122, 123, 124, 737, 738, 739, 740, 741, 742, 743, 744, 745, 746] (by decide +kernel) (by decide +kernel)) (goodIn_sub (fun _ h => List.mem_append_left _ (List.mem_append_left _ (List.mem_append_right _ h))) (by decide +kernel))) (goodIn_sub (fun _ h => List.mem_append_right _ h) (by decide +kernel))
set_option maxRecDepth 20000 in
theorem gL_law_L_splice : GoodIn wsL_law (va_wsS RL 115 yL_splice wsL_splice) := goodIn_app (goodIn_of _ (by decide +kernel)) ggL_law_L_splice
set_option maxRecDepth 20000 in
theorem ggL_law_X1_splice : GoodIn wsL_law wsX1_splice := goodIn_r _ [305, 129, 28, 130, 24, 25, 26, 232, 233, 234, 5, 235, 236, 237, 238, 239, 134, 135, 136, 137, 138, 139, 140, 240, 241, 242, 243, 244, 245, 246, 247, 264, 265, 266, 267, 306, 307, 308, 268, 269, 270, 271, 101, 102, 103, 272, 105, 106, 196, 197, 198, 199, 200, 201, 202, 203, 204, 205, 206, 207, 208, 747, 748, 749, 750, 751, 752, 753] (by decide +kernel) (by decide +kernel)
set_option maxRecDepth 20000 in
theorem gL_law_X1_splice : GoodIn wsL_law (wsV RL 117 RX1 yX1_splice wsX1_splice) := goodIn_app (goodIn_of _ (by decide +kernel)) ggL_law_X1_splice
set_option maxRecDepth 20000 in
theorem ggL_law_L_rest : GoodIn wsL_law wsL_rest := goodIn_ca (goodIn_r _ [311, 34, 312, 313, 314, 2, 315, 48, 49, 19, 104, 105, 102, 106, 737, 738, 739, 740, 741, 742, 743, 744, 745, 746] (by decide +kernel) (by decide +kernel)) (goodIn_sub (fun _ h => List.mem_append_left _ (List.mem_append_right _ h)) (by decide +kernel))
set_option maxRecDepth 20000 in
theorem gL_law_L_rest : GoodIn wsL_law (va_wsS RL 118 yL_rest wsL_rest) := goodIn_app (goodIn_of _ (by decide +kernel)) ggL_law_L_rest
set_option maxRecDepth 20000 in
theorem ggL_law_X1_rest : GoodIn wsL_law wsX1_rest := goodIn_r _ [319, 129, 24, 272, 105, 102, 106, 134, 135, 5, 136, 137, 138, 139, 140, 747, 748, 749, 750, 751, 752, 753] (by decide +kernel) (by decide +kernel)
set_option maxRecDepth 20000 in
theorem gL_law_X1_rest : GoodIn wsL_law (wsV RL 120 RX1 yX1_rest wsX1_rest) := goodIn_app (goodIn_of _ (by decide +kernel)) ggL_law_X1_rest
set_option maxRecDepth 20000 in
theorem ggL_law_X0_remarks : GoodIn wsL_law wsX0_remarks := goodIn_r _ [323, 56, 737, 738, 739, 740, 741, 742, 743, 744, 745, 746] (by decide +kernel) (by decide +kernel)
set_option maxRecDepth 20000 in
theorem gL_law_X0_remarks : GoodIn wsL_law (wsV RL 121 RX0 yX0_remarks wsX0_remarks) := goodIn_app (goodIn_of _ (by decide +kernel)) ggL_law_X0_remarks
set_option maxRecDepth 20000 in
theorem ggL_law_X1_remarks : GoodIn wsL_law wsX1_remarks := goodIn_r _ [327, 130, 328, 329, 330, 5, 331, 129, 747, 748, 749, 750, 751, 752, 753] (by decide +kernel) (by decide +kernel)
set_option maxRecDepth 20000 in
theorem gL_law_X1_remarks : GoodIn wsL_law (wsV RL 124 RX1 yX1_remarks wsX1_remarks) := goodIn_app (goodIn_of _ (by decide +kernel)) ggL_law_X1_remarks
set_option maxRecDepth 20000 in
theorem ggL_law_X0_words : GoodIn wsL_law wsX0_words := goodIn_r _ [335, 72, 737, 738, 739, 740, 741, 742, 743, 744, 745, 746] (by decide +kernel) (by decide +kernel)
set_option maxRecDepth 20000 in
theorem gL_law_X0_words : GoodIn wsL_law (wsV RL 125 RX0 yX0_words wsX0_words) := goodIn_app (goodIn_of _ (by decide +kernel)) ggL_law_X0_words
set_option maxRecDepth 20000 in
theorem ggL_law_X1_words : GoodIn wsL_law wsX1_words := goodIn_r _ [339, 236, 237, 238, 5, 239, 130, 25, 328, 329, 330, 331, 129, 747, 748, 749, 750, 751, 752, 753] (by decide +kernel) (by decide +kernel)
set_option maxRecDepth 20000 in
theorem gL_law_X1_words : GoodIn wsL_law (wsV RL 128 RX1 yX1_words wsX1_words) := goodIn_app (goodIn_of _ (by decide +kernel)) ggL_law_X1_words
set_option maxRecDepth 20000 in
theorem ggL_law_X0_coughs : GoodIn wsL_law wsX0_coughs := goodIn_r _ [343, 56, 72, 737, 738, 739, 740, 741, 742, 743, 744, 745, 746] (by decide +kernel) (by decide +kernel)
set_option maxRecDepth 20000 in
theorem gL_law_X0_coughs : GoodIn wsL_law (wsV RL 129 RX0 yX0_coughs wsX0_coughs) := goodIn_app (goodIn_of _ (by decide +kernel)) ggL_law_X0_coughs
set_option maxRecDepth 20000 in
theorem ggL_law_X1_coughs : GoodIn wsL_law wsX1_coughs := goodIn_r _ [347, 130, 236, 237, 238, 5, 239, 25, 328, 329, 330, 331, 129, 747, 748, 749, 750, 751, 752, 753] (by decide +kernel) (by decide +kernel)
set_option maxRecDepth 20000 in
theorem gL_law_X1_coughs : GoodIn wsL_law (wsV RL 132 RX1 yX1_coughs wsX1_coughs) := goodIn_app (goodIn_of _ (by decide +kernel)) ggL_law_X1_coughs
set_option maxRecDepth 20000 in
theorem ggL_law_X0_patience : GoodIn wsL_law wsX0_patience := goodIn_r _ [351, 19, 737, 738, 739, 740, 741, 742, 743, 744, 745, 746] (by decide +kernel) (by decide +kernel)
set_option maxRecDepth 20000 in
theorem gL_law_X0_patience : GoodIn wsL_law (wsV RL 133 RX0 yX0_patience wsX0_patience) := goodIn_app (goodIn_of _ (by decide +kernel)) ggL_law_X0_patience
set_option maxRecDepth 20000 in
theorem ggL_law_X1_patience : GoodIn wsL_law wsX1_patience := goodIn_r _ [355, 24, 328, 329, 330, 5, 331, 129, 747, 748, 749, 750, 751, 752, 753] (by decide +kernel) (by decide +kernel)
set_option maxRecDepth 20000 in
theorem gL_law_X1_patience : GoodIn wsL_law (wsV RL 136 RX1 yX1_patience wsX1_patience) := goodIn_app (goodIn_of _ (by decide +kernel)) ggL_law_X1_patience
set_option maxRecDepth 20000 in
theorem ggL_law_X0_spent : GoodIn wsL_law wsX0_spent := goodIn_r _ [359, 179, 737, 738, 739, 740, 741, 742, 743, 744, 745, 746] (by decide +kernel) (by decide +kernel)
set_option maxRecDepth 20000 in
theorem gL_law_X0_spent : GoodIn wsL_law (wsV RL 137 RX0 yX0_spent wsX0_spent) := goodIn_app (goodIn_of _ (by decide +kernel)) ggL_law_X0_spent
set_option maxRecDepth 20000 in
theorem ggL_law_X1_spent : GoodIn wsL_law wsX1_spent := goodIn_r _ [363, 208, 328, 329, 330, 5, 331, 129, 747, 748, 749, 750, 751, 752, 753] (by decide +kernel) (by decide +kernel)
set_option maxRecDepth 20000 in
theorem gL_law_X1_spent : GoodIn wsL_law (wsV RL 140 RX1 yX1_spent wsX1_spent) := goodIn_app (goodIn_of _ (by decide +kernel)) ggL_law_X1_spent
set_option maxRecDepth 20000 in
theorem ggL_law_L_isCough : GoodIn wsL_law wsL_isCough := goodIn_ca (goodIn_r _ [366, 33, 367, 368, 369, 2, 370, 167, 168, 169, 170, 43, 44, 56, 74, 75, 76, 77, 15, 78, 79, 80, 737, 738, 739, 740, 741, 742, 743, 744, 745, 746] (by decide +kernel) (by decide +kernel)) (goodIn_sub (fun _ h => List.mem_append_left _ (List.mem_append_left _ (List.mem_append_right _ h))) (by decide +kernel))
set_option maxRecDepth 20000 in
theorem gL_law_L_isCough : GoodIn wsL_law (va_wsS RL 141 yL_isCough wsL_isCough) := goodIn_app (goodIn_of _ (by decide +kernel)) ggL_law_L_isCough
set_option maxRecDepth 20000 in
theorem ggL_law_X1_isCough : GoodIn wsL_law wsX1_isCough := goodIn_r _ [374, 129, 25, 192, 193, 194, 5, 195, 130, 134, 135, 136, 747, 748, 749, 750, 751, 752, 753] (by decide +kernel) (by decide +kernel)
