theorem dX0_copyRemark_20 : decode cX0_copyRemark 20 = .ok (.iload_n 2, 1) := by decide +kernel
theorem dX0_copyRemark_21 : decode cX0_copyRemark 21 = .ok (.aload_n 0, 1) := by decide +kernel
theorem dX0_copyRemark_22 : decode cX0_copyRemark 22 = .ok (.getfield 13, 3) := by decide +kernel
theorem dX0_copyRemark_25 : decode cX0_copyRemark 25 = .ok (.iload_n 1, 1) := by decide +kernel
theorem dX0_copyRemark_26 : decode cX0_copyRemark 26 = .ok (.invokestatic 78, 3) := by decide +kernel
theorem dX0_copyRemark_29 : decode cX0_copyRemark 29 = .ok (.invokestatic 82, 3) := by decide +kernel
theorem dX0_copyRemark_32 : decode cX0_copyRemark 32 = .ok (.aload_n 0, 1) := by decide +kernel
theorem dX0_copyRemark_33 : decode cX0_copyRemark 33 = .ok (.getfield 16, 3) := by decide +kernel
theorem dX0_copyRemark_36 : decode cX0_copyRemark 36 = .ok (.iload_n 2, 1) := by decide +kernel
theorem dX0_copyRemark_37 : decode cX0_copyRemark 37 = .ok (.aload_n 0, 1) := by decide +kernel
theorem dX0_copyRemark_38 : decode cX0_copyRemark 38 = .ok (.getfield 16, 3) := by decide +kernel
theorem dX0_copyRemark_41 : decode cX0_copyRemark 41 = .ok (.iload_n 1, 1) := by decide +kernel
theorem dX0_copyRemark_42 : decode cX0_copyRemark 42 = .ok (.invokestatic 78, 3) := by decide +kernel
theorem dX0_copyRemark_45 : decode cX0_copyRemark 45 = .ok (.invokestatic 82, 3) := by decide +kernel
theorem dX0_copyRemark_48 : decode cX0_copyRemark 48 = .ok (.return_, 1) := by decide +kernel
theorem dX0_pay_0 : decode cX0_pay 0 = .ok (.aload_n 0, 1) := by decide +kernel
theorem dX0_pay_1 : decode cX0_pay 1 = .ok (.dup, 1) := by decide +kernel
theorem dX0_pay_2 : decode cX0_pay 2 = .ok (.getfield 25, 3) := by decide +kernel
theorem dX0_pay_5 : decode cX0_pay 5 = .ok (.iload_n 1, 1) := by decide +kernel
theorem dX0_pay_6 : decode cX0_pay 6 = .ok (.isub, 1) := by decide +kernel
theorem dX0_pay_7 : decode cX0_pay 7 = .ok (.putfield 25, 3) := by decide +kernel
theorem dX0_pay_10 : decode cX0_pay 10 = .ok (.aload_n 0, 1) := by decide +kernel
theorem dX0_pay_11 : decode cX0_pay 11 = .ok (.dup, 1) := by decide +kernel
theorem dX0_pay_12 : decode cX0_pay 12 = .ok (.getfield 119, 3) := by decide +kernel
theorem dX0_pay_15 : decode cX0_pay 15 = .ok (.iload_n 1, 1) := by decide +kernel
theorem dX0_pay_16 : decode cX0_pay 16 = .ok (.iadd, 1) := by decide +kernel
theorem dX0_pay_17 : decode cX0_pay 17 = .ok (.putfield 119, 3) := by decide +kernel
theorem dX0_pay_20 : decode cX0_pay 20 = .ok (.return_, 1) := by decide +kernel
set_option maxRecDepth 20000 in
theorem ggX0_recount_X0_coughStandsAt : GoodIn wsX0_recount wsX0_coughStandsAt := goodIn_r _ [10, 11, 12, 13, 9, 14, 64, 65, 66, 67, 68, 69, 70, 71, 72, 73] (by decide +kernel) (by decide +kernel)
set_option maxRecDepth 20000 in
theorem gX0_recount_X0_coughStandsAt : GoodIn wsX0_recount (wsV RX0 46 RX0 yX0_coughStandsAt wsX0_coughStandsAt) := goodIn_app (goodIn_of _ (by decide +kernel)) ggX0_recount_X0_coughStandsAt
set_option maxRecDepth 20000 in
theorem ggX0_recount_X0_write : GoodIn wsX0_recount wsX0_write := goodIn_r _ [17] (by decide +kernel) (by decide +kernel)
set_option maxRecDepth 20000 in
theorem gX0_recount_X0_write : GoodIn wsX0_recount (va_wsS RX0 82 yX0_write wsX0_write) := goodIn_app (goodIn_of _ (by decide +kernel)) ggX0_recount_X0_write
set_option maxRecDepth 20000 in
theorem ggX0_recount_X0_kindOfGap : GoodIn wsX0_recount wsX0_kindOfGap := goodIn_r _ [21, 22, 23, 24, 9, 25, 26, 3, 12, 13, 14, 27, 28, 29, 30, 31, 32, 33, 34, 11, 35, 36, 37, 38, 39, 40, 41, 42, 43, 44, 45, 46, 47, 48, 49, 50, 51, 52, 53, 54, 55, 56, 57, 58, 59, 60, 61, 62, 63, 64, 65, 66, 67, 68, 69, 70, 71, 72, 73] (by decide +kernel) (by decide +kernel)
set_option maxRecDepth 20000 in
theorem gX0_recount_X0_kindOfGap : GoodIn wsX0_recount (wsV RX0 134 RX0 yX0_kindOfGap wsX0_kindOfGap) := goodIn_app (goodIn_of _ (by decide +kernel)) ggX0_recount_X0_kindOfGap
theorem dX0_recount_0 : decode cX0_recount 0 = .ok (.aload_n 0, 1) := by decide +kernel
theorem dX0_recount_1 : decode cX0_recount 1 = .ok (.iconst 0, 1) := by decide +kernel
theorem dX0_recount_2 : decode cX0_recount 2 = .ok (.putfield 116, 3) := by decide +kernel
theorem dX0_recount_5 : decode cX0_recount 5 = .ok (.iconst 0, 1) := by decide +kernel
theorem dX0_recount_6 : decode cX0_recount 6 = .ok (.istore_n 1, 1) := by decide +kernel
theorem dX0_recount_7 : decode cX0_recount 7 = .ok (.iload_n 1, 1) := by decide +kernel
theorem dX0_recount_8 : decode cX0_recount 8 = .ok (.aload_n 0, 1) := by decide +kernel
theorem dX0_recount_9 : decode cX0_recount 9 = .ok (.getfield 69, 3) := by decide +kernel
theorem dX0_recount_12 : decode cX0_recount 12 = .ok (.if_icmp .ge 39, 3) := by decide +kernel
theorem dX0_recount_15 : decode cX0_recount 15 = .ok (.aload_n 0, 1) := by decide +kernel
theorem dX0_recount_16 : decode cX0_recount 16 = .ok (.iload_n 1, 1) := by decide +kernel
theorem dX0_recount_17 : decode cX0_recount 17 = .ok (.invokevirtual 46, 3) := by decide +kernel
theorem dX0_recount_20 : decode cX0_recount 20 = .ok (.ifCond .ne 25, 3) := by decide +kernel
theorem dX0_recount_23 : decode cX0_recount 23 = .ok (.aload_n 0, 1) := by decide +kernel
theorem dX0_recount_24 : decode cX0_recount 24 = .ok (.getfield 19, 3) := by decide +kernel
theorem dX0_recount_27 : decode cX0_recount 27 = .ok (.aload_n 0, 1) := by decide +kernel
theorem dX0_recount_28 : decode cX0_recount 28 = .ok (.getfield 116, 3) := by decide +kernel
theorem dX0_recount_31 : decode cX0_recount 31 = .ok (.iload_n 1, 1) := by decide +kernel
theorem dX0_recount_32 : decode cX0_recount 32 = .ok (.invokestatic 82, 3) := by decide +kernel
theorem dX0_recount_35 : decode cX0_recount 35 = .ok (.aload_n 0, 1) := by decide +kernel
theorem dX0_recount_36 : decode cX0_recount 36 = .ok (.dup, 1) := by decide +kernel
theorem dX0_recount_37 : decode cX0_recount 37 = .ok (.getfield 116, 3) := by decide +kernel
theorem dX0_recount_40 : decode cX0_recount 40 = .ok (.iconst 1, 1) := by decide +kernel
theorem dX0_recount_41 : decode cX0_recount 41 = .ok (.iadd, 1) := by decide +kernel
theorem dX0_recount_42 : decode cX0_recount 42 = .ok (.putfield 116, 3) := by decide +kernel
theorem dX0_recount_45 : decode cX0_recount 45 = .ok (.iinc 1 1, 3) := by decide +kernel
theorem dX0_recount_48 : decode cX0_recount 48 = .ok (.goto (-41), 3) := by decide +kernel
theorem dX0_recount_51 : decode cX0_recount 51 = .ok (.aload_n 0, 1) := by decide +kernel
theorem dX0_recount_52 : decode cX0_recount 52 = .ok (.iconst 0, 1) := by decide +kernel
theorem dX0_recount_53 : decode cX0_recount 53 = .ok (.putfield 86, 3) := by decide +kernel
theorem dX0_recount_56 : decode cX0_recount 56 = .ok (.iconst 0, 1) := by decide +kernel
theorem dX0_recount_57 : decode cX0_recount 57 = .ok (.istore_n 1, 1) := by decide +kernel
theorem dX0_recount_58 : decode cX0_recount 58 = .ok (.iload_n 1, 1) := by decide +kernel
theorem dX0_recount_59 : decode cX0_recount 59 = .ok (.aload_n 0, 1) := by decide +kernel
theorem dX0_recount_60 : decode cX0_recount 60 = .ok (.getfield 116, 3) := by decide +kernel
theorem dX0_recount_63 : decode cX0_recount 63 = .ok (.if_icmp .ge 48, 3) := by decide +kernel
theorem dX0_recount_66 : decode cX0_recount 66 = .ok (.iload_n 1, 1) := by decide +kernel
theorem dX0_recount_67 : decode cX0_recount 67 = .ok (.ifCond .eq 14, 3) := by decide +kernel
theorem dX0_recount_70 : decode cX0_recount 70 = .ok (.aload_n 0, 1) := by decide +kernel
theorem dX0_recount_71 : decode cX0_recount 71 = .ok (.iload_n 1, 1) := by decide +kernel
theorem dX0_recount_72 : decode cX0_recount 72 = .ok (.iconst 1, 1) := by decide +kernel
theorem dX0_recount_73 : decode cX0_recount 73 = .ok (.isub, 1) := by decide +kernel
theorem dX0_recount_74 : decode cX0_recount 74 = .ok (.invokevirtual 134, 3) := by decide +kernel
theorem dX0_recount_77 : decode cX0_recount 77 = .ok (.iconst 2, 1) := by decide +kernel
theorem dX0_recount_78 : decode cX0_recount 78 = .ok (.if_icmp .ne 13, 3) := by decide +kernel
theorem dX0_recount_81 : decode cX0_recount 81 = .ok (.aload_n 0, 1) := by decide +kernel
theorem dX0_recount_82 : decode cX0_recount 82 = .ok (.dup, 1) := by decide +kernel
theorem dX0_recount_83 : decode cX0_recount 83 = .ok (.getfield 86, 3) := by decide +kernel
theorem dX0_recount_86 : decode cX0_recount 86 = .ok (.iconst 1, 1) := by decide +kernel
theorem dX0_recount_87 : decode cX0_recount 87 = .ok (.iadd, 1) := by decide +kernel
theorem dX0_recount_88 : decode cX0_recount 88 = .ok (.putfield 86, 3) := by decide +kernel
theorem dX0_recount_91 : decode cX0_recount 91 = .ok (.aload_n 0, 1) := by decide +kernel
theorem dX0_recount_92 : decode cX0_recount 92 = .ok (.getfield 22, 3) := by decide +kernel
theorem dX0_recount_95 : decode cX0_recount 95 = .ok (.iload_n 1, 1) := by decide +kernel
theorem dX0_recount_96 : decode cX0_recount 96 = .ok (.aload_n 0, 1) := by decide +kernel
theorem dX0_recount_97 : decode cX0_recount 97 = .ok (.getfield 86, 3) := by decide +kernel
theorem dX0_recount_100 : decode cX0_recount 100 = .ok (.iconst 1, 1) := by decide +kernel
theorem dX0_recount_101 : decode cX0_recount 101 = .ok (.isub, 1) := by decide +kernel
theorem dX0_recount_102 : decode cX0_recount 102 = .ok (.invokestatic 82, 3) := by decide +kernel
theorem dX0_recount_105 : decode cX0_recount 105 = .ok (.iinc 1 1, 3) := by decide +kernel
theorem dX0_recount_108 : decode cX0_recount 108 = .ok (.goto (-50), 3) := by decide +kernel
theorem dX0_recount_111 : decode cX0_recount 111 = .ok (.return_, 1) := by decide +kernel
set_option maxRecDepth 20000 in
theorem ggX0_coughStandsAt_X0_read : GoodIn wsX0_coughStandsAt wsX0_read := goodIn_r _ [5] (by decide +kernel) (by decide +kernel)
set_option maxRecDepth 20000 in
theorem gX0_coughStandsAt_X0_read : GoodIn wsX0_coughStandsAt (va_wsS RX0 78 yX0_read wsX0_read) := goodIn_app (goodIn_of _ (by decide +kernel)) ggX0_coughStandsAt_X0_read
theorem dX0_coughStandsAt_0 : decode cX0_coughStandsAt 0 = .ok (.aload_n 0, 1) := by decide +kernel
theorem dX0_coughStandsAt_1 : decode cX0_coughStandsAt 1 = .ok (.getfield 13, 3) := by decide +kernel
theorem dX0_coughStandsAt_4 : decode cX0_coughStandsAt 4 = .ok (.iload_n 1, 1) := by decide +kernel
theorem dX0_coughStandsAt_5 : decode cX0_coughStandsAt 5 = .ok (.invokestatic 78, 3) := by decide +kernel
theorem dX0_coughStandsAt_8 : decode cX0_coughStandsAt 8 = .ok (.iconst (-1), 1) := by decide +kernel
theorem dX0_coughStandsAt_9 : decode cX0_coughStandsAt 9 = .ok (.if_icmp .ne 7, 3) := by decide +kernel
theorem dX0_coughStandsAt_12 : decode cX0_coughStandsAt 12 = .ok (.iconst 1, 1) := by decide +kernel
theorem dX0_coughStandsAt_13 : decode cX0_coughStandsAt 13 = .ok (.goto 4, 3) := by decide +kernel
theorem dX0_coughStandsAt_16 : decode cX0_coughStandsAt 16 = .ok (.iconst 0, 1) := by decide +kernel
theorem dX0_coughStandsAt_17 : decode cX0_coughStandsAt 17 = .ok (.ireturn, 1) := by decide +kernel
set_option maxRecDepth 20000 in
theorem ggX0_speakerOfWord_X0_read : GoodIn wsX0_speakerOfWord wsX0_read := goodIn_r _ [6] (by decide +kernel) (by decide +kernel)
set_option maxRecDepth 20000 in
theorem gX0_speakerOfWord_X0_read : GoodIn wsX0_speakerOfWord (va_wsS RX0 78 yX0_read wsX0_read) := goodIn_app (goodIn_of _ (by decide +kernel)) ggX0_speakerOfWord_X0_read
theorem dX0_speakerOfWord_0 : decode cX0_speakerOfWord 0 = .ok (.aload_n 0, 1) := by decide +kernel
theorem dX0_speakerOfWord_1 : decode cX0_speakerOfWord 1 = .ok (.getfield 9, 3) := by decide +kernel
theorem dX0_speakerOfWord_4 : decode cX0_speakerOfWord 4 = .ok (.aload_n 0, 1) := by decide +kernel
theorem dX0_speakerOfWord_5 : decode cX0_speakerOfWord 5 = .ok (.getfield 19, 3) := by decide +kernel
theorem dX0_speakerOfWord_8 : decode cX0_speakerOfWord 8 = .ok (.iload_n 1, 1) := by decide +kernel
theorem dX0_speakerOfWord_9 : decode cX0_speakerOfWord 9 = .ok (.invokestatic 78, 3) := by decide +kernel
theorem dX0_speakerOfWord_12 : decode cX0_speakerOfWord 12 = .ok (.invokestatic 78, 3) := by decide +kernel
theorem dX0_speakerOfWord_15 : decode cX0_speakerOfWord 15 = .ok (.ireturn, 1) := by decide +kernel
set_option maxRecDepth 20000 in
theorem ggX0_topicOfWord_X0_read : GoodIn wsX0_topicOfWord wsX0_read := goodIn_r _ [6] (by decide +kernel) (by decide +kernel)
set_option maxRecDepth 20000 in
theorem gX0_topicOfWord_X0_read : GoodIn wsX0_topicOfWord (va_wsS RX0 78 yX0_read wsX0_read) := goodIn_app (goodIn_of _ (by decide +kernel)) ggX0_topicOfWord_X0_read
theorem dX0_topicOfWord_0 : decode cX0_topicOfWord 0 = .ok (.aload_n 0, 1) := by decide +kernel
theorem dX0_topicOfWord_1 : decode cX0_topicOfWord 1 = .ok (.getfield 13, 3) := by decide +kernel
theorem dX0_topicOfWord_4 : decode cX0_topicOfWord 4 = .ok (.aload_n 0, 1) := by decide +kernel
theorem dX0_topicOfWord_5 : decode cX0_topicOfWord 5 = .ok (.getfield 19, 3) := by decide +kernel
theorem dX0_topicOfWord_8 : decode cX0_topicOfWord 8 = .ok (.iload_n 1, 1) := by decide +kernel
theorem dX0_topicOfWord_9 : decode cX0_topicOfWord 9 = .ok (.invokestatic 78, 3) := by decide +kernel
theorem dX0_topicOfWord_12 : decode cX0_topicOfWord 12 = .ok (.invokestatic 78, 3) := by decide +kernel
theorem dX0_topicOfWord_15 : decode cX0_topicOfWord 15 = .ok (.ireturn, 1) := by decide +kernel
set_option maxRecDepth 20000 in
theorem ggX0_threadOfWord_X0_read : GoodIn wsX0_threadOfWord wsX0_read := goodIn_r _ [5] (by decide +kernel) (by decide +kernel)
set_option maxRecDepth 20000 in
theorem gX0_threadOfWord_X0_read : GoodIn wsX0_threadOfWord (va_wsS RX0 78 yX0_read wsX0_read) := goodIn_app (goodIn_of _ (by decide +kernel)) ggX0_threadOfWord_X0_read
theorem dX0_threadOfWord_0 : decode cX0_threadOfWord 0 = .ok (.aload_n 0, 1) := by decide +kernel
theorem dX0_threadOfWord_1 : decode cX0_threadOfWord 1 = .ok (.getfield 22, 3) := by decide +kernel
theorem dX0_threadOfWord_4 : decode cX0_threadOfWord 4 = .ok (.iload_n 1, 1) := by decide +kernel
theorem dX0_threadOfWord_5 : decode cX0_threadOfWord 5 = .ok (.invokestatic 78, 3) := by decide +kernel
theorem dX0_threadOfWord_8 : decode cX0_threadOfWord 8 = .ok (.ireturn, 1) := by decide +kernel
set_option maxRecDepth 20000 in
theorem ggX0_wordsInThread_X0_threadOfWord : GoodIn wsX0_wordsInThread wsX0_threadOfWord := goodIn_r _ [6, 7, 8, 9, 5, 10, 11, 12, 13, 14, 15, 16, 17, 18, 19, 20] (by decide +kernel) (by decide +kernel)
set_option maxRecDepth 20000 in
theorem gX0_wordsInThread_X0_threadOfWord : GoodIn wsX0_wordsInThread (wsV RX0 140 RX0 yX0_threadOfWord wsX0_threadOfWord) := goodIn_app (goodIn_of _ (by decide +kernel)) ggX0_wordsInThread_X0_threadOfWord
theorem dX0_wordsInThread_0 : decode cX0_wordsInThread 0 = .ok (.iconst 0, 1) := by decide +kernel
theorem dX0_wordsInThread_1 : decode cX0_wordsInThread 1 = .ok (.istore_n 2, 1) := by decide +kernel
theorem dX0_wordsInThread_2 : decode cX0_wordsInThread 2 = .ok (.iconst 0, 1) := by decide +kernel
theorem dX0_wordsInThread_3 : decode cX0_wordsInThread 3 = .ok (.istore_n 3, 1) := by decide +kernel
theorem dX0_wordsInThread_4 : decode cX0_wordsInThread 4 = .ok (.iload_n 3, 1) := by decide +kernel
theorem dX0_wordsInThread_5 : decode cX0_wordsInThread 5 = .ok (.aload_n 0, 1) := by decide +kernel
theorem dX0_wordsInThread_6 : decode cX0_wordsInThread 6 = .ok (.getfield 116, 3) := by decide +kernel
theorem dX0_wordsInThread_9 : decode cX0_wordsInThread 9 = .ok (.if_icmp .ge 21, 3) := by decide +kernel
theorem dX0_wordsInThread_12 : decode cX0_wordsInThread 12 = .ok (.aload_n 0, 1) := by decide +kernel
theorem dX0_wordsInThread_13 : decode cX0_wordsInThread 13 = .ok (.iload_n 3, 1) := by decide +kernel
theorem dX0_wordsInThread_14 : decode cX0_wordsInThread 14 = .ok (.invokevirtual 140, 3) := by decide +kernel
theorem dX0_wordsInThread_17 : decode cX0_wordsInThread 17 = .ok (.iload_n 1, 1) := by decide +kernel
theorem dX0_wordsInThread_18 : decode cX0_wordsInThread 18 = .ok (.if_icmp .ne 6, 3) := by decide +kernel
theorem dX0_wordsInThread_21 : decode cX0_wordsInThread 21 = .ok (.iinc 2 1, 3) := by decide +kernel
theorem dX0_wordsInThread_24 : decode cX0_wordsInThread 24 = .ok (.iinc 3 1, 3) := by decide +kernel
theorem dX0_wordsInThread_27 : decode cX0_wordsInThread 27 = .ok (.goto (-23), 3) := by decide +kernel
theorem dX0_wordsInThread_30 : decode cX0_wordsInThread 30 = .ok (.iload_n 2, 1) := by decide +kernel
theorem dX0_wordsInThread_31 : decode cX0_wordsInThread 31 = .ok (.ireturn, 1) := by decide +kernel
theorem dX0_gapCount_0 : decode cX0_gapCount 0 = .ok (.aload_n 0, 1) := by decide +kernel
theorem dX0_gapCount_1 : decode cX0_gapCount 1 = .ok (.getfield 116, 3) := by decide +kernel
theorem dX0_gapCount_4 : decode cX0_gapCount 4 = .ok (.ifCond .ne 7, 3) := by decide +kernel
theorem dX0_gapCount_7 : decode cX0_gapCount 7 = .ok (.iconst 0, 1) := by decide +kernel
theorem dX0_gapCount_8 : decode cX0_gapCount 8 = .ok (.goto 9, 3) := by decide +kernel
theorem dX0_gapCount_11 : decode cX0_gapCount 11 = .ok (.aload_n 0, 1) := by decide +kernel
theorem dX0_gapCount_12 : decode cX0_gapCount 12 = .ok (.getfield 116, 3) := by decide +kernel
theorem dX0_gapCount_15 : decode cX0_gapCount 15 = .ok (.iconst 1, 1) := by decide +kernel
theorem dX0_gapCount_16 : decode cX0_gapCount 16 = .ok (.isub, 1) := by decide +kernel
theorem dX0_gapCount_17 : decode cX0_gapCount 17 = .ok (.ireturn, 1) := by decide +kernel
set_option maxRecDepth 20000 in
theorem ggX0_gapTied_X0_read : GoodIn wsX0_gapTied wsX0_read := goodIn_r _ [6] (by decide +kernel) (by decide +kernel)
set_option maxRecDepth 20000 in
theorem gX0_gapTied_X0_read : GoodIn wsX0_gapTied (va_wsS RX0 78 yX0_read wsX0_read) := goodIn_app (goodIn_of _ (by decide +kernel)) ggX0_gapTied_X0_read
theorem dX0_gapTied_0 : decode cX0_gapTied 0 = .ok (.aload_n 0, 1) := by decide +kernel
theorem dX0_gapTied_1 : decode cX0_gapTied 1 = .ok (.getfield 16, 3) := by decide +kernel
theorem dX0_gapTied_4 : decode cX0_gapTied 4 = .ok (.aload_n 0, 1) := by decide +kernel
theorem dX0_gapTied_5 : decode cX0_gapTied 5 = .ok (.getfield 19, 3) := by decide +kernel
theorem dX0_gapTied_8 : decode cX0_gapTied 8 = .ok (.iload_n 1, 1) := by decide +kernel
theorem dX0_gapTied_9 : decode cX0_gapTied 9 = .ok (.invokestatic 78, 3) := by decide +kernel
theorem dX0_gapTied_12 : decode cX0_gapTied 12 = .ok (.invokestatic 78, 3) := by decide +kernel
theorem dX0_gapTied_15 : decode cX0_gapTied 15 = .ok (.iconst 1, 1) := by decide +kernel
theorem dX0_gapTied_16 : decode cX0_gapTied 16 = .ok (.if_icmp .ne 7, 3) := by decide +kernel
theorem dX0_gapTied_19 : decode cX0_gapTied 19 = .ok (.iconst 1, 1) := by decide +kernel
theorem dX0_gapTied_20 : decode cX0_gapTied 20 = .ok (.goto 4, 3) := by decide +kernel
theorem dX0_gapTied_23 : decode cX0_gapTied 23 = .ok (.iconst 0, 1) := by decide +kernel
theorem dX0_gapTied_24 : decode cX0_gapTied 24 = .ok (.ireturn, 1) := by decide +kernel
set_option maxRecDepth 20000 in
theorem ggX0_ofOneSpeaker_X0_speakerOfWord : GoodIn wsX0_ofOneSpeaker wsX0_speakerOfWord := goodIn_r _ [5, 6, 7, 8, 9, 4, 10, 11, 12, 13, 14, 15, 16, 17, 18, 19, 20] (by decide +kernel) (by decide +kernel)
set_option maxRecDepth 20000 in
theorem gX0_ofOneSpeaker_X0_speakerOfWord : GoodIn wsX0_ofOneSpeaker (wsV RX0 89 RX0 yX0_speakerOfWord wsX0_speakerOfWord) := goodIn_app (goodIn_of _ (by decide +kernel)) ggX0_ofOneSpeaker_X0_speakerOfWord
theorem dX0_ofOneSpeaker_0 : decode cX0_ofOneSpeaker 0 = .ok (.aload_n 0, 1) := by decide +kernel
theorem dX0_ofOneSpeaker_1 : decode cX0_ofOneSpeaker 1 = .ok (.iload_n 1, 1) := by decide +kernel
theorem dX0_ofOneSpeaker_2 : decode cX0_ofOneSpeaker 2 = .ok (.invokevirtual 89, 3) := by decide +kernel
theorem dX0_ofOneSpeaker_5 : decode cX0_ofOneSpeaker 5 = .ok (.aload_n 0, 1) := by decide +kernel
theorem dX0_ofOneSpeaker_6 : decode cX0_ofOneSpeaker 6 = .ok (.iload_n 1, 1) := by decide +kernel
theorem dX0_ofOneSpeaker_7 : decode cX0_ofOneSpeaker 7 = .ok (.iconst 1, 1) := by decide +kernel
theorem dX0_ofOneSpeaker_8 : decode cX0_ofOneSpeaker 8 = .ok (.iadd, 1) := by decide +kernel
theorem dX0_ofOneSpeaker_9 : decode cX0_ofOneSpeaker 9 = .ok (.invokevirtual 89, 3) := by decide +kernel
theorem dX0_ofOneSpeaker_12 : decode cX0_ofOneSpeaker 12 = .ok (.if_icmp .ne 7, 3) := by decide +kernel
theorem dX0_ofOneSpeaker_15 : decode cX0_ofOneSpeaker 15 = .ok (.iconst 1, 1) := by decide +kernel
theorem dX0_ofOneSpeaker_16 : decode cX0_ofOneSpeaker 16 = .ok (.goto 4, 3) := by decide +kernel
theorem dX0_ofOneSpeaker_19 : decode cX0_ofOneSpeaker 19 = .ok (.iconst 0, 1) := by decide +kernel
theorem dX0_ofOneSpeaker_20 : decode cX0_ofOneSpeaker 20 = .ok (.ireturn, 1) := by decide +kernel
set_option maxRecDepth 20000 in
theorem ggX0_coughsOfGap_X0_read : GoodIn wsX0_coughsOfGap wsX0_read := goodIn_r _ [5] (by decide +kernel) (by decide +kernel)
set_option maxRecDepth 20000 in
theorem gX0_coughsOfGap_X0_read : GoodIn wsX0_coughsOfGap (va_wsS RX0 78 yX0_read wsX0_read) := goodIn_app (goodIn_of _ (by decide +kernel)) ggX0_coughsOfGap_X0_read
theorem dX0_coughsOfGap_0 : decode cX0_coughsOfGap 0 = .ok (.aload_n 0, 1) := by decide +kernel
theorem dX0_coughsOfGap_1 : decode cX0_coughsOfGap 1 = .ok (.getfield 19, 3) := by decide +kernel
theorem dX0_coughsOfGap_4 : decode cX0_coughsOfGap 4 = .ok (.iload_n 1, 1) := by decide +kernel
theorem dX0_coughsOfGap_5 : decode cX0_coughsOfGap 5 = .ok (.iconst 1, 1) := by decide +kernel
theorem dX0_coughsOfGap_6 : decode cX0_coughsOfGap 6 = .ok (.iadd, 1) := by decide +kernel
theorem dX0_coughsOfGap_7 : decode cX0_coughsOfGap 7 = .ok (.invokestatic 78, 3) := by decide +kernel
theorem dX0_coughsOfGap_10 : decode cX0_coughsOfGap 10 = .ok (.aload_n 0, 1) := by decide +kernel
theorem dX0_coughsOfGap_11 : decode cX0_coughsOfGap 11 = .ok (.getfield 19, 3) := by decide +kernel
theorem dX0_coughsOfGap_14 : decode cX0_coughsOfGap 14 = .ok (.iload_n 1, 1) := by decide +kernel
theorem dX0_coughsOfGap_15 : decode cX0_coughsOfGap 15 = .ok (.invokestatic 78, 3) := by decide +kernel
theorem dX0_coughsOfGap_18 : decode cX0_coughsOfGap 18 = .ok (.isub, 1) := by decide +kernel
theorem dX0_coughsOfGap_19 : decode cX0_coughsOfGap 19 = .ok (.iconst 1, 1) := by decide +kernel
theorem dX0_coughsOfGap_20 : decode cX0_coughsOfGap 20 = .ok (.isub, 1) := by decide +kernel
theorem dX0_coughsOfGap_21 : decode cX0_coughsOfGap 21 = .ok (.ireturn, 1) := by decide +kernel
set_option maxRecDepth 20000 in
theorem ggX0_strainOfGap_X0_topicOfWord : GoodIn wsX0_strainOfGap wsX0_topicOfWord := goodIn_r _ [5, 6, 7, 8, 9, 4, 10, 25, 26, 27, 28, 29, 30, 31, 32, 33, 34] (by decide +kernel) (by decide +kernel)
set_option maxRecDepth 20000 in
theorem gX0_strainOfGap_X0_topicOfWord : GoodIn wsX0_strainOfGap (wsV RX0 93 RX0 yX0_topicOfWord wsX0_topicOfWord) := goodIn_app (goodIn_of _ (by decide +kernel)) ggX0_strainOfGap_X0_topicOfWord
set_option maxRecDepth 20000 in
theorem ggX0_strainOfGap_X0_topicDistance : GoodIn wsX0_strainOfGap wsX0_topicDistance := goodIn_r _ [13, 14, 15, 16, 17, 18, 19, 20] (by decide +kernel) (by decide +kernel)
set_option maxRecDepth 20000 in
theorem gX0_strainOfGap_X0_topicDistance : GoodIn wsX0_strainOfGap (va_wsS RX0 164 yX0_topicDistance wsX0_topicDistance) := goodIn_app (goodIn_of _ (by decide +kernel)) ggX0_strainOfGap_X0_topicDistance
set_option maxRecDepth 20000 in
theorem ggX0_strainOfGap_X0_coughsOfGap : GoodIn wsX0_strainOfGap wsX0_coughsOfGap := goodIn_r _ [24, 7, 8, 9, 4, 10, 25, 26, 27, 28, 29, 30, 31, 32, 33, 34] (by decide +kernel) (by decide +kernel)
set_option maxRecDepth 20000 in
theorem gX0_strainOfGap_X0_coughsOfGap : GoodIn wsX0_strainOfGap (wsV RX0 125 RX0 yX0_coughsOfGap wsX0_coughsOfGap) := goodIn_app (goodIn_of _ (by decide +kernel)) ggX0_strainOfGap_X0_coughsOfGap
theorem dX0_strainOfGap_0 : decode cX0_strainOfGap 0 = .ok (.aload_n 0, 1) := by decide +kernel
theorem dX0_strainOfGap_1 : decode cX0_strainOfGap 1 = .ok (.iload_n 1, 1) := by decide +kernel
theorem dX0_strainOfGap_2 : decode cX0_strainOfGap 2 = .ok (.invokevirtual 93, 3) := by decide +kernel
theorem dX0_strainOfGap_5 : decode cX0_strainOfGap 5 = .ok (.aload_n 0, 1) := by decide +kernel
theorem dX0_strainOfGap_6 : decode cX0_strainOfGap 6 = .ok (.iload_n 1, 1) := by decide +kernel
theorem dX0_strainOfGap_7 : decode cX0_strainOfGap 7 = .ok (.iconst 1, 1) := by decide +kernel
theorem dX0_strainOfGap_8 : decode cX0_strainOfGap 8 = .ok (.iadd, 1) := by decide +kernel
theorem dX0_strainOfGap_9 : decode cX0_strainOfGap 9 = .ok (.invokevirtual 93, 3) := by decide +kernel
theorem dX0_strainOfGap_12 : decode cX0_strainOfGap 12 = .ok (.invokestatic 164, 3) := by decide +kernel
theorem dX0_strainOfGap_15 : decode cX0_strainOfGap 15 = .ok (.aload_n 0, 1) := by decide +kernel
theorem dX0_strainOfGap_16 : decode cX0_strainOfGap 16 = .ok (.iload_n 1, 1) := by decide +kernel
theorem dX0_strainOfGap_17 : decode cX0_strainOfGap 17 = .ok (.invokevirtual 125, 3) := by decide +kernel
theorem dX0_strainOfGap_20 : decode cX0_strainOfGap 20 = .ok (.iadd, 1) := by decide +kernel
theorem dX0_strainOfGap_21 : decode cX0_strainOfGap 21 = .ok (.ireturn, 1) := by decide +kernel
set_option maxRecDepth 20000 in
theorem ggX0_kindOfGap_X0_gapTied : GoodIn wsX0_kindOfGap wsX0_gapTied := goodIn_r _ [5, 6, 7, 8, 9, 4, 10, 49, 50, 51, 52, 53, 54, 55, 56, 57, 58] (by decide +kernel) (by decide +kernel)
set_option maxRecDepth 20000 in
theorem gX0_kindOfGap_X0_gapTied : GoodIn wsX0_kindOfGap (wsV RX0 131 RX0 yX0_gapTied wsX0_gapTied) := goodIn_app (goodIn_of _ (by decide +kernel)) ggX0_kindOfGap_X0_gapTied
set_option maxRecDepth 20000 in
theorem ggX0_kindOfGap_X0_strainOfGap : GoodIn wsX0_kindOfGap wsX0_strainOfGap := goodIn_r _ [14, 15, 16, 17, 4, 18, 19, 7, 8, 9, 10, 20, 21, 22, 23, 24, 25, 26, 27, 28, 29, 30, 31, 32, 33, 49, 50, 51, 52, 53, 54, 55, 56, 57, 58] (by decide +kernel) (by decide +kernel)
set_option maxRecDepth 20000 in
theorem gX0_kindOfGap_X0_strainOfGap : GoodIn wsX0_kindOfGap (wsV RX0 128 RX0 yX0_strainOfGap wsX0_strainOfGap) := goodIn_app (goodIn_of _ (by decide +kernel)) ggX0_kindOfGap_X0_strainOfGap
set_option maxRecDepth 20000 in
theorem ggX0_kindOfGap_X0_ofOneSpeaker : GoodIn wsX0_kindOfGap wsX0_ofOneSpeaker := goodIn_r _ [37, 38, 39, 40, 4, 41, 42, 7, 8, 9, 10, 49, 50, 51, 52, 53, 54, 55, 56, 57, 58] (by decide +kernel) (by decide +kernel)
set_option maxRecDepth 20000 in
theorem gX0_kindOfGap_X0_ofOneSpeaker : GoodIn wsX0_kindOfGap (wsV RX0 221 RX0 yX0_ofOneSpeaker wsX0_ofOneSpeaker) := goodIn_app (goodIn_of _ (by decide +kernel)) ggX0_kindOfGap_X0_ofOneSpeaker
set_option maxRecDepth 20000 in
theorem ggX0_kindOfGap_X0_kindOf : GoodIn wsX0_kindOfGap wsX0_kindOf := goodIn_r _ [45, 46, 47, 4, 48] (by decide +kernel) (by decide +kernel)
set_option maxRecDepth 20000 in
theorem gX0_kindOfGap_X0_kindOf : GoodIn wsX0_kindOfGap (va_wsS RX0 167 yX0_kindOf wsX0_kindOf) := goodIn_app (goodIn_of _ (by decide +kernel)) ggX0_kindOfGap_X0_kindOf
theorem dX0_kindOfGap_0 : decode cX0_kindOfGap 0 = .ok (.aload_n 0, 1) := by decide +kernel
theorem dX0_kindOfGap_1 : decode cX0_kindOfGap 1 = .ok (.iload_n 1, 1) := by decide +kernel
theorem dX0_kindOfGap_2 : decode cX0_kindOfGap 2 = .ok (.invokevirtual 131, 3) := by decide +kernel
theorem dX0_kindOfGap_5 : decode cX0_kindOfGap 5 = .ok (.aload_n 0, 1) := by decide +kernel
theorem dX0_kindOfGap_6 : decode cX0_kindOfGap 6 = .ok (.iload_n 1, 1) := by decide +kernel
theorem dX0_kindOfGap_7 : decode cX0_kindOfGap 7 = .ok (.invokevirtual 128, 3) := by decide +kernel
theorem dX0_kindOfGap_10 : decode cX0_kindOfGap 10 = .ok (.aload_n 0, 1) := by decide +kernel
theorem dX0_kindOfGap_11 : decode cX0_kindOfGap 11 = .ok (.iload_n 1, 1) := by decide +kernel
theorem dX0_kindOfGap_12 : decode cX0_kindOfGap 12 = .ok (.invokevirtual 221, 3) := by decide +kernel
theorem dX0_kindOfGap_15 : decode cX0_kindOfGap 15 = .ok (.invokestatic 167, 3) := by decide +kernel
theorem dX0_kindOfGap_18 : decode cX0_kindOfGap 18 = .ok (.ireturn, 1) := by decide +kernel
set_option maxRecDepth 20000 in
theorem ggX0_gapsOfKind_X0_gapCount : GoodIn wsX0_gapsOfKind wsX0_gapCount := goodIn_r _ [5, 6, 58, 59, 60, 61, 62, 63, 64, 65, 66, 67] (by decide +kernel) (by decide +kernel)
set_option maxRecDepth 20000 in
theorem gX0_gapsOfKind_X0_gapCount : GoodIn wsX0_gapsOfKind (wsV RX0 157 RX0 yX0_gapCount wsX0_gapCount) := goodIn_app (goodIn_of _ (by decide +kernel)) ggX0_gapsOfKind_X0_gapCount
set_option maxRecDepth 20000 in
theorem ggX0_gapsOfKind_X0_kindOfGap : GoodIn wsX0_gapsOfKind wsX0_kindOfGap := goodIn_r _ [10, 11, 12, 13, 4, 14, 15, 16, 17, 18, 19, 20, 21, 22, 23, 24, 25, 26, 27, 28, 29, 30, 31, 32, 33, 34, 35, 36, 37, 38, 39, 40, 41, 42, 43, 44, 45, 46, 47, 48, 49, 50, 51, 52, 53, 54, 55, 56, 57, 58, 59, 60, 61, 62, 63, 64, 65, 66, 67] (by decide +kernel) (by decide +kernel)
set_option maxRecDepth 20000 in
theorem gX0_gapsOfKind_X0_kindOfGap : GoodIn wsX0_gapsOfKind (wsV RX0 134 RX0 yX0_kindOfGap wsX0_kindOfGap) := goodIn_app (goodIn_of _ (by decide +kernel)) ggX0_gapsOfKind_X0_kindOfGap
theorem dX0_gapsOfKind_0 : decode cX0_gapsOfKind 0 = .ok (.iconst 0, 1) := by decide +kernel
theorem dX0_gapsOfKind_1 : decode cX0_gapsOfKind 1 = .ok (.istore_n 2, 1) := by decide +kernel
theorem dX0_gapsOfKind_2 : decode cX0_gapsOfKind 2 = .ok (.iconst 0, 1) := by decide +kernel
theorem dX0_gapsOfKind_3 : decode cX0_gapsOfKind 3 = .ok (.istore_n 3, 1) := by decide +kernel
theorem dX0_gapsOfKind_4 : decode cX0_gapsOfKind 4 = .ok (.iload_n 3, 1) := by decide +kernel
theorem dX0_gapsOfKind_5 : decode cX0_gapsOfKind 5 = .ok (.aload_n 0, 1) := by decide +kernel
theorem dX0_gapsOfKind_6 : decode cX0_gapsOfKind 6 = .ok (.invokevirtual 157, 3) := by decide +kernel
theorem dX0_gapsOfKind_9 : decode cX0_gapsOfKind 9 = .ok (.if_icmp .ge 21, 3) := by decide +kernel
theorem dX0_gapsOfKind_12 : decode cX0_gapsOfKind 12 = .ok (.aload_n 0, 1) := by decide +kernel
theorem dX0_gapsOfKind_13 : decode cX0_gapsOfKind 13 = .ok (.iload_n 3, 1) := by decide +kernel
theorem dX0_gapsOfKind_14 : decode cX0_gapsOfKind 14 = .ok (.invokevirtual 134, 3) := by decide +kernel
theorem dX0_gapsOfKind_17 : decode cX0_gapsOfKind 17 = .ok (.iload_n 1, 1) := by decide +kernel
theorem dX0_gapsOfKind_18 : decode cX0_gapsOfKind 18 = .ok (.if_icmp .ne 6, 3) := by decide +kernel
theorem dX0_gapsOfKind_21 : decode cX0_gapsOfKind 21 = .ok (.iinc 2 1, 3) := by decide +kernel
theorem dX0_gapsOfKind_24 : decode cX0_gapsOfKind 24 = .ok (.iinc 3 1, 3) := by decide +kernel
theorem dX0_gapsOfKind_27 : decode cX0_gapsOfKind 27 = .ok (.goto (-23), 3) := by decide +kernel
theorem dX0_gapsOfKind_30 : decode cX0_gapsOfKind 30 = .ok (.iload_n 2, 1) := by decide +kernel
theorem dX0_gapsOfKind_31 : decode cX0_gapsOfKind 31 = .ok (.ireturn, 1) := by decide +kernel
set_option maxRecDepth 20000 in
theorem ggX0_mendingCost_X0_kindOfGap : GoodIn wsX0_mendingCost wsX0_kindOfGap := goodIn_r _ [9, 10, 11, 12, 8, 13, 14, 15, 16, 17, 18, 19, 20, 21, 22, 23, 24, 25, 26, 27, 28, 29, 30, 31, 32, 3, 33, 1, 2, 4, 34, 35, 36, 37, 38, 39, 40, 41, 42, 43, 44, 45, 46, 47, 48, 49, 50, 51, 52, 53, 54, 55, 56, 57, 58, 59, 60, 61, 62] (by decide +kernel) (by decide +kernel)
set_option maxRecDepth 20000 in
theorem gX0_mendingCost_X0_kindOfGap : GoodIn wsX0_mendingCost (wsV RX0 134 RX0 yX0_kindOfGap wsX0_kindOfGap) := goodIn_app (goodIn_of _ (by decide +kernel)) ggX0_mendingCost_X0_kindOfGap
set_option maxRecDepth 20000 in
theorem ggX0_mendingCost_X0_strainOfGap : GoodIn wsX0_mendingCost wsX0_strainOfGap := goodIn_r _ [22, 23, 24, 25, 8, 26, 27, 15, 16, 17, 18, 28, 29, 30, 31, 32, 3, 33, 1, 2, 4, 34, 35, 36, 37, 53, 54, 55, 56, 57, 58, 59, 60, 61, 62] (by decide +kernel) (by decide +kernel)
set_option maxRecDepth 20000 in
theorem gX0_mendingCost_X0_strainOfGap : GoodIn wsX0_mendingCost (wsV RX0 128 RX0 yX0_strainOfGap wsX0_strainOfGap) := goodIn_app (goodIn_of _ (by decide +kernel)) ggX0_mendingCost_X0_strainOfGap
set_option maxRecDepth 20000 in
theorem ggX0_mendingCost_X0_ofOneSpeaker : GoodIn wsX0_mendingCost wsX0_ofOneSpeaker := goodIn_r _ [41, 42, 43, 44, 8, 45, 46, 15, 16, 17, 18, 53, 54, 55, 56, 57, 58, 59, 60, 61, 62] (by decide +kernel) (by decide +kernel)
set_option maxRecDepth 20000 in
theorem gX0_mendingCost_X0_ofOneSpeaker : GoodIn wsX0_mendingCost (wsV RX0 221 RX0 yX0_ofOneSpeaker wsX0_ofOneSpeaker) := goodIn_app (goodIn_of _ (by decide +kernel)) ggX0_mendingCost_X0_ofOneSpeaker
set_option maxRecDepth 20000 in
theorem ggX0_mendingCost_X0_mostUnbrokenStrain : GoodIn wsX0_mendingCost wsX0_mostUnbrokenStrain := goodIn_r _ [52] (by decide +kernel) (by decide +kernel)
set_option maxRecDepth 20000 in
theorem gX0_mendingCost_X0_mostUnbrokenStrain : GoodIn wsX0_mendingCost (va_wsS RX0 224 yX0_mostUnbrokenStrain wsX0_mostUnbrokenStrain) := goodIn_app (goodIn_of _ (by decide +kernel)) ggX0_mendingCost_X0_mostUnbrokenStrain
set_option maxRecDepth 20000 in
theorem ggX0_mendingCost_X0_coughsOfGap : GoodIn wsX0_mendingCost wsX0_coughsOfGap := goodIn_r _ [37, 15, 16, 17, 8, 18, 53, 54, 55, 56, 57, 58, 59, 60, 61, 62] (by decide +kernel) (by decide +kernel)
set_option maxRecDepth 20000 in
theorem gX0_mendingCost_X0_coughsOfGap : GoodIn wsX0_mendingCost (wsV RX0 125 RX0 yX0_coughsOfGap wsX0_coughsOfGap) := goodIn_app (goodIn_of _ (by decide +kernel)) ggX0_mendingCost_X0_coughsOfGap
theorem dX0_mendingCost_0 : decode cX0_mendingCost 0 = .ok (.aload_n 0, 1) := by decide +kernel
theorem dX0_mendingCost_1 : decode cX0_mendingCost 1 = .ok (.iload_n 1, 1) := by decide +kernel
theorem dX0_mendingCost_2 : decode cX0_mendingCost 2 = .ok (.invokevirtual 134, 3) := by decide +kernel
theorem dX0_mendingCost_5 : decode cX0_mendingCost 5 = .ok (.iconst 2, 1) := by decide +kernel
theorem dX0_mendingCost_6 : decode cX0_mendingCost 6 = .ok (.if_icmp .eq 5, 3) := by decide +kernel
theorem dX0_mendingCost_9 : decode cX0_mendingCost 9 = .ok (.iconst 0, 1) := by decide +kernel
theorem dX0_mendingCost_10 : decode cX0_mendingCost 10 = .ok (.ireturn, 1) := by decide +kernel
theorem dX0_mendingCost_11 : decode cX0_mendingCost 11 = .ok (.aload_n 0, 1) := by decide +kernel
theorem dX0_mendingCost_12 : decode cX0_mendingCost 12 = .ok (.iload_n 1, 1) := by decide +kernel
theorem dX0_mendingCost_13 : decode cX0_mendingCost 13 = .ok (.invokevirtual 128, 3) := by decide +kernel
theorem dX0_mendingCost_16 : decode cX0_mendingCost 16 = .ok (.aload_n 0, 1) := by decide +kernel
theorem dX0_mendingCost_17 : decode cX0_mendingCost 17 = .ok (.iload_n 1, 1) := by decide +kernel
theorem dX0_mendingCost_18 : decode cX0_mendingCost 18 = .ok (.invokevirtual 221, 3) := by decide +kernel
theorem dX0_mendingCost_21 : decode cX0_mendingCost 21 = .ok (.invokestatic 224, 3) := by decide +kernel
theorem dX0_mendingCost_24 : decode cX0_mendingCost 24 = .ok (.isub, 1) := by decide +kernel
theorem dX0_mendingCost_25 : decode cX0_mendingCost 25 = .ok (.istore_n 2, 1) := by decide +kernel
theorem dX0_mendingCost_26 : decode cX0_mendingCost 26 = .ok (.iload_n 2, 1) := by decide +kernel
theorem dX0_mendingCost_27 : decode cX0_mendingCost 27 = .ok (.aload_n 0, 1) := by decide +kernel
theorem dX0_mendingCost_28 : decode cX0_mendingCost 28 = .ok (.iload_n 1, 1) := by decide +kernel
theorem dX0_mendingCost_29 : decode cX0_mendingCost 29 = .ok (.invokevirtual 125, 3) := by decide +kernel
theorem dX0_mendingCost_32 : decode cX0_mendingCost 32 = .ok (.if_icmp .gt 7, 3) := by decide +kernel
theorem dX0_mendingCost_35 : decode cX0_mendingCost 35 = .ok (.iconst 1, 1) := by decide +kernel
theorem dX0_mendingCost_36 : decode cX0_mendingCost 36 = .ok (.goto 4, 3) := by decide +kernel
theorem dX0_mendingCost_39 : decode cX0_mendingCost 39 = .ok (.iconst 0, 1) := by decide +kernel
theorem dX0_mendingCost_40 : decode cX0_mendingCost 40 = .ok (.istore_n 3, 1) := by decide +kernel
theorem dX0_mendingCost_41 : decode cX0_mendingCost 41 = .ok (.iload_n 3, 1) := by decide +kernel
theorem dX0_mendingCost_42 : decode cX0_mendingCost 42 = .ok (.ifCond .eq 13, 3) := by decide +kernel
theorem dX0_mendingCost_45 : decode cX0_mendingCost 45 = .ok (.iconst 3, 1) := by decide +kernel
theorem dX0_mendingCost_46 : decode cX0_mendingCost 46 = .ok (.iload_n 2, 1) := by decide +kernel
theorem dX0_mendingCost_47 : decode cX0_mendingCost 47 = .ok (.iconst 1, 1) := by decide +kernel
theorem dX0_mendingCost_48 : decode cX0_mendingCost 48 = .ok (.imul, 1) := by decide +kernel
theorem dX0_mendingCost_49 : decode cX0_mendingCost 49 = .ok (.invokestatic 111, 3) := by decide +kernel
theorem dX0_mendingCost_52 : decode cX0_mendingCost 52 = .ok (.goto 4, 3) := by decide +kernel
theorem dX0_mendingCost_55 : decode cX0_mendingCost 55 = .ok (.iconst 3, 1) := by decide +kernel
theorem dX0_mendingCost_56 : decode cX0_mendingCost 56 = .ok (.ireturn, 1) := by decide +kernel
set_option maxRecDepth 20000 in
theorem ggX0_brokenChangeBySplice_X0_kindOfGap : GoodIn wsX0_brokenChangeBySplice wsX0_kindOfGap := goodIn_r _ [5, 6, 7, 8, 4, 9, 10, 11, 12, 13, 14, 15, 16, 17, 18, 19, 20, 21, 22, 23, 24, 25, 26, 27, 28, 29, 30, 31, 32, 33, 34, 35, 36, 37, 38, 39, 40, 41, 42, 43, 44, 45, 46, 47, 48, 49, 50, 51, 52, 60, 61, 62, 63, 64, 65, 66, 67, 68, 69] (by decide +kernel) (by decide +kernel)
set_option maxRecDepth 20000 in
theorem gX0_brokenChangeBySplice_X0_kindOfGap : GoodIn wsX0_brokenChangeBySplice (wsV RX0 134 RX0 yX0_kindOfGap wsX0_kindOfGap) := goodIn_app (goodIn_of _ (by decide +kernel)) ggX0_brokenChangeBySplice_X0_kindOfGap
set_option maxRecDepth 20000 in
theorem ggX0_brokenChangeBySplice_X0_topicOfWord : GoodIn wsX0_brokenChangeBySplice wsX0_topicOfWord := goodIn_r _ [22, 23, 11, 12, 13, 4, 14, 60, 61, 62, 63, 64, 65, 66, 67, 68, 69] (by decide +kernel) (by decide +kernel)
set_option maxRecDepth 20000 in
theorem gX0_brokenChangeBySplice_X0_topicOfWord : GoodIn wsX0_brokenChangeBySplice (wsV RX0 93 RX0 yX0_topicOfWord wsX0_topicOfWord) := goodIn_app (goodIn_of _ (by decide +kernel)) ggX0_brokenChangeBySplice_X0_topicOfWord
set_option maxRecDepth 20000 in
theorem ggX0_brokenChangeBySplice_X0_topicBetween : GoodIn wsX0_brokenChangeBySplice wsX0_topicBetween := goodIn_r _ [55, 24, 25, 4, 26, 27, 28, 29, 30, 31, 32, 33, 56, 57, 58, 59] (by decide +kernel) (by decide +kernel)
set_option maxRecDepth 20000 in
theorem gX0_brokenChangeBySplice_X0_topicBetween : GoodIn wsX0_brokenChangeBySplice (va_wsS RX0 96 yX0_topicBetween wsX0_topicBetween) := goodIn_app (goodIn_of _ (by decide +kernel)) ggX0_brokenChangeBySplice_X0_topicBetween
set_option maxRecDepth 20000 in
theorem ggX0_brokenChangeBySplice_X0_topicDistance : GoodIn wsX0_brokenChangeBySplice wsX0_topicDistance := goodIn_r _ [26, 27, 28, 29, 30, 31, 32, 33] (by decide +kernel) (by decide +kernel)
set_option maxRecDepth 20000 in
theorem gX0_brokenChangeBySplice_X0_topicDistance : GoodIn wsX0_brokenChangeBySplice (va_wsS RX0 164 yX0_topicDistance wsX0_topicDistance) := goodIn_app (goodIn_of _ (by decide +kernel)) ggX0_brokenChangeBySplice_X0_topicDistance
set_option maxRecDepth 20000 in
theorem ggX0_brokenChangeBySplice_X0_coughsOfGap : GoodIn wsX0_brokenChangeBySplice wsX0_coughsOfGap := goodIn_r _ [37, 11, 12, 13, 4, 14, 60, 61, 62, 63, 64, 65, 66, 67, 68, 69] (by decide +kernel) (by decide +kernel)
set_option maxRecDepth 20000 in
theorem gX0_brokenChangeBySplice_X0_coughsOfGap : GoodIn wsX0_brokenChangeBySplice (wsV RX0 125 RX0 yX0_coughsOfGap wsX0_coughsOfGap) := goodIn_app (goodIn_of _ (by decide +kernel)) ggX0_brokenChangeBySplice_X0_coughsOfGap
set_option maxRecDepth 20000 in
theorem ggX0_brokenChangeBySplice_X0_kindOf : GoodIn wsX0_brokenChangeBySplice wsX0_kindOf := goodIn_r _ [49, 50, 51, 4, 52] (by decide +kernel) (by decide +kernel)
set_option maxRecDepth 20000 in
theorem gX0_brokenChangeBySplice_X0_kindOf : GoodIn wsX0_brokenChangeBySplice (va_wsS RX0 167 yX0_kindOf wsX0_kindOf) := goodIn_app (goodIn_of _ (by decide +kernel)) ggX0_brokenChangeBySplice_X0_kindOf
set_option maxRecDepth 20000 in
theorem ggX0_brokenChangeBySplice_X0_ofOneSpeaker : GoodIn wsX0_brokenChangeBySplice wsX0_ofOneSpeaker := goodIn_r _ [41, 42, 43, 44, 4, 45, 46, 11, 12, 13, 14, 60, 61, 62, 63, 64, 65, 66, 67, 68, 69] (by decide +kernel) (by decide +kernel)
set_option maxRecDepth 20000 in
theorem gX0_brokenChangeBySplice_X0_ofOneSpeaker : GoodIn wsX0_brokenChangeBySplice (wsV RX0 221 RX0 yX0_ofOneSpeaker wsX0_ofOneSpeaker) := goodIn_app (goodIn_of _ (by decide +kernel)) ggX0_brokenChangeBySplice_X0_ofOneSpeaker
theorem dX0_brokenChangeBySplice_0 : decode cX0_brokenChangeBySplice 0 = .ok (.aload_n 0, 1) := by decide +kernel
theorem dX0_brokenChangeBySplice_1 : decode cX0_brokenChangeBySplice 1 = .ok (.iload_n 1, 1) := by decide +kernel
theorem dX0_brokenChangeBySplice_2 : decode cX0_brokenChangeBySplice 2 = .ok (.invokevirtual 134, 3) := by decide +kernel
theorem dX0_brokenChangeBySplice_5 : decode cX0_brokenChangeBySplice 5 = .ok (.iconst 2, 1) := by decide +kernel
theorem dX0_brokenChangeBySplice_6 : decode cX0_brokenChangeBySplice 6 = .ok (.if_icmp .ne 7, 3) := by decide +kernel
theorem dX0_brokenChangeBySplice_9 : decode cX0_brokenChangeBySplice 9 = .ok (.iconst 1, 1) := by decide +kernel
theorem dX0_brokenChangeBySplice_10 : decode cX0_brokenChangeBySplice 10 = .ok (.goto 4, 3) := by decide +kernel
theorem dX0_brokenChangeBySplice_13 : decode cX0_brokenChangeBySplice 13 = .ok (.iconst 0, 1) := by decide +kernel
theorem dX0_brokenChangeBySplice_14 : decode cX0_brokenChangeBySplice 14 = .ok (.istore_n 2, 1) := by decide +kernel
theorem dX0_brokenChangeBySplice_15 : decode cX0_brokenChangeBySplice 15 = .ok (.aload_n 0, 1) := by decide +kernel
theorem dX0_brokenChangeBySplice_16 : decode cX0_brokenChangeBySplice 16 = .ok (.iload_n 1, 1) := by decide +kernel
theorem dX0_brokenChangeBySplice_17 : decode cX0_brokenChangeBySplice 17 = .ok (.invokevirtual 93, 3) := by decide +kernel
theorem dX0_brokenChangeBySplice_20 : decode cX0_brokenChangeBySplice 20 = .ok (.aload_n 0, 1) := by decide +kernel
theorem dX0_brokenChangeBySplice_21 : decode cX0_brokenChangeBySplice 21 = .ok (.iload_n 1, 1) := by decide +kernel
theorem dX0_brokenChangeBySplice_22 : decode cX0_brokenChangeBySplice 22 = .ok (.iconst 1, 1) := by decide +kernel
theorem dX0_brokenChangeBySplice_23 : decode cX0_brokenChangeBySplice 23 = .ok (.iadd, 1) := by decide +kernel
theorem dX0_brokenChangeBySplice_24 : decode cX0_brokenChangeBySplice 24 = .ok (.invokevirtual 93, 3) := by decide +kernel
theorem dX0_brokenChangeBySplice_27 : decode cX0_brokenChangeBySplice 27 = .ok (.invokestatic 96, 3) := by decide +kernel
theorem dX0_brokenChangeBySplice_30 : decode cX0_brokenChangeBySplice 30 = .ok (.istore_n 3, 1) := by decide +kernel
theorem dX0_brokenChangeBySplice_31 : decode cX0_brokenChangeBySplice 31 = .ok (.aload_n 0, 1) := by decide +kernel
theorem dX0_brokenChangeBySplice_32 : decode cX0_brokenChangeBySplice 32 = .ok (.iload_n 1, 1) := by decide +kernel
theorem dX0_brokenChangeBySplice_33 : decode cX0_brokenChangeBySplice 33 = .ok (.invokevirtual 93, 3) := by decide +kernel
theorem dX0_brokenChangeBySplice_36 : decode cX0_brokenChangeBySplice 36 = .ok (.iload_n 3, 1) := by decide +kernel
theorem dX0_brokenChangeBySplice_37 : decode cX0_brokenChangeBySplice 37 = .ok (.invokestatic 164, 3) := by decide +kernel
theorem dX0_brokenChangeBySplice_40 : decode cX0_brokenChangeBySplice 40 = .ok (.istore 4, 2) := by decide +kernel
theorem dX0_brokenChangeBySplice_42 : decode cX0_brokenChangeBySplice 42 = .ok (.iload_n 3, 1) := by decide +kernel
theorem dX0_brokenChangeBySplice_43 : decode cX0_brokenChangeBySplice 43 = .ok (.aload_n 0, 1) := by decide +kernel
theorem dX0_brokenChangeBySplice_44 : decode cX0_brokenChangeBySplice 44 = .ok (.iload_n 1, 1) := by decide +kernel
theorem dX0_brokenChangeBySplice_45 : decode cX0_brokenChangeBySplice 45 = .ok (.iconst 1, 1) := by decide +kernel
theorem dX0_brokenChangeBySplice_46 : decode cX0_brokenChangeBySplice 46 = .ok (.iadd, 1) := by decide +kernel
theorem dX0_brokenChangeBySplice_47 : decode cX0_brokenChangeBySplice 47 = .ok (.invokevirtual 93, 3) := by decide +kernel
theorem dX0_brokenChangeBySplice_50 : decode cX0_brokenChangeBySplice 50 = .ok (.invokestatic 164, 3) := by decide +kernel
theorem dX0_brokenChangeBySplice_53 : decode cX0_brokenChangeBySplice 53 = .ok (.aload_n 0, 1) := by decide +kernel
theorem dX0_brokenChangeBySplice_54 : decode cX0_brokenChangeBySplice 54 = .ok (.iload_n 1, 1) := by decide +kernel
theorem dX0_brokenChangeBySplice_55 : decode cX0_brokenChangeBySplice 55 = .ok (.invokevirtual 125, 3) := by decide +kernel
theorem dX0_brokenChangeBySplice_58 : decode cX0_brokenChangeBySplice 58 = .ok (.iadd, 1) := by decide +kernel
theorem dX0_brokenChangeBySplice_59 : decode cX0_brokenChangeBySplice 59 = .ok (.istore 5, 2) := by decide +kernel
theorem dX0_brokenChangeBySplice_61 : decode cX0_brokenChangeBySplice 61 = .ok (.iconst 0, 1) := by decide +kernel
theorem dX0_brokenChangeBySplice_62 : decode cX0_brokenChangeBySplice 62 = .ok (.iload 4, 2) := by decide +kernel
theorem dX0_brokenChangeBySplice_64 : decode cX0_brokenChangeBySplice 64 = .ok (.iconst 1, 1) := by decide +kernel
theorem dX0_brokenChangeBySplice_65 : decode cX0_brokenChangeBySplice 65 = .ok (.invokestatic 167, 3) := by decide +kernel
theorem dX0_brokenChangeBySplice_68 : decode cX0_brokenChangeBySplice 68 = .ok (.iconst 2, 1) := by decide +kernel
theorem dX0_brokenChangeBySplice_69 : decode cX0_brokenChangeBySplice 69 = .ok (.if_icmp .ne 7, 3) := by decide +kernel
theorem dX0_brokenChangeBySplice_72 : decode cX0_brokenChangeBySplice 72 = .ok (.iconst 1, 1) := by decide +kernel
theorem dX0_brokenChangeBySplice_73 : decode cX0_brokenChangeBySplice 73 = .ok (.goto 4, 3) := by decide +kernel
theorem dX0_brokenChangeBySplice_76 : decode cX0_brokenChangeBySplice 76 = .ok (.iconst 0, 1) := by decide +kernel
theorem dX0_brokenChangeBySplice_77 : decode cX0_brokenChangeBySplice 77 = .ok (.istore 6, 2) := by decide +kernel
theorem dX0_brokenChangeBySplice_79 : decode cX0_brokenChangeBySplice 79 = .ok (.iconst 0, 1) := by decide +kernel
theorem dX0_brokenChangeBySplice_80 : decode cX0_brokenChangeBySplice 80 = .ok (.iload 5, 2) := by decide +kernel
theorem dX0_brokenChangeBySplice_82 : decode cX0_brokenChangeBySplice 82 = .ok (.aload_n 0, 1) := by decide +kernel
theorem dX0_brokenChangeBySplice_83 : decode cX0_brokenChangeBySplice 83 = .ok (.iload_n 1, 1) := by decide +kernel
theorem dX0_brokenChangeBySplice_84 : decode cX0_brokenChangeBySplice 84 = .ok (.invokevirtual 221, 3) := by decide +kernel
theorem dX0_brokenChangeBySplice_87 : decode cX0_brokenChangeBySplice 87 = .ok (.invokestatic 167, 3) := by decide +kernel
theorem dX0_brokenChangeBySplice_90 : decode cX0_brokenChangeBySplice 90 = .ok (.iconst 2, 1) := by decide +kernel
theorem dX0_brokenChangeBySplice_91 : decode cX0_brokenChangeBySplice 91 = .ok (.if_icmp .ne 7, 3) := by decide +kernel
theorem dX0_brokenChangeBySplice_94 : decode cX0_brokenChangeBySplice 94 = .ok (.iconst 1, 1) := by decide +kernel
theorem dX0_brokenChangeBySplice_95 : decode cX0_brokenChangeBySplice 95 = .ok (.goto 4, 3) := by decide +kernel
theorem dX0_brokenChangeBySplice_98 : decode cX0_brokenChangeBySplice 98 = .ok (.iconst 0, 1) := by decide +kernel
theorem dX0_brokenChangeBySplice_99 : decode cX0_brokenChangeBySplice 99 = .ok (.istore 7, 2) := by decide +kernel
theorem dX0_brokenChangeBySplice_101 : decode cX0_brokenChangeBySplice 101 = .ok (.iload 6, 2) := by decide +kernel
theorem dX0_brokenChangeBySplice_103 : decode cX0_brokenChangeBySplice 103 = .ok (.iload 7, 2) := by decide +kernel
theorem dX0_brokenChangeBySplice_105 : decode cX0_brokenChangeBySplice 105 = .ok (.iadd, 1) := by decide +kernel
theorem dX0_brokenChangeBySplice_106 : decode cX0_brokenChangeBySplice 106 = .ok (.iload_n 2, 1) := by decide +kernel
theorem dX0_brokenChangeBySplice_107 : decode cX0_brokenChangeBySplice 107 = .ok (.isub, 1) := by decide +kernel
theorem dX0_brokenChangeBySplice_108 : decode cX0_brokenChangeBySplice 108 = .ok (.ireturn, 1) := by decide +kernel
theorem dX0_topicDistance_0 : decode cX0_topicDistance 0 = .ok (.iload_n 0, 1) := by decide +kernel
theorem dX0_topicDistance_1 : decode cX0_topicDistance 1 = .ok (.iload_n 1, 1) := by decide +kernel
theorem dX0_topicDistance_2 : decode cX0_topicDistance 2 = .ok (.isub, 1) := by decide +kernel
theorem dX0_topicDistance_3 : decode cX0_topicDistance 3 = .ok (.invokestatic 228, 3) := by decide +kernel
theorem dX0_topicDistance_6 : decode cX0_topicDistance 6 = .ok (.istore_n 2, 1) := by decide +kernel
theorem dX0_topicDistance_7 : decode cX0_topicDistance 7 = .ok (.iload_n 2, 1) := by decide +kernel
theorem dX0_topicDistance_8 : decode cX0_topicDistance 8 = .ok (.bipush 10, 2) := by decide +kernel
theorem dX0_topicDistance_10 : decode cX0_topicDistance 10 = .ok (.iload_n 2, 1) := by decide +kernel
theorem dX0_topicDistance_11 : decode cX0_topicDistance 11 = .ok (.isub, 1) := by decide +kernel
theorem dX0_topicDistance_12 : decode cX0_topicDistance 12 = .ok (.invokestatic 111, 3) := by decide +kernel
theorem dX0_topicDistance_15 : decode cX0_topicDistance 15 = .ok (.ireturn, 1) := by decide +kernel
set_option maxRecDepth 20000 in
theorem ggX0_topicBetween_X0_topicDistance : GoodIn wsX0_topicBetween wsX0_topicDistance := goodIn_r _ [4, 5, 6, 7, 8, 9, 10, 11] (by decide +kernel) (by decide +kernel)
set_option maxRecDepth 20000 in
theorem gX0_topicBetween_X0_topicDistance : GoodIn wsX0_topicBetween (va_wsS RX0 164 yX0_topicDistance wsX0_topicDistance) := goodIn_app (goodIn_of _ (by decide +kernel)) ggX0_topicBetween_X0_topicDistance
set_option maxRecDepth 20000 in
theorem ggX0_topicBetween_J9_floorMod_7cf53 : GoodIn wsX0_topicBetween wsJ9_floorMod_7cf53 := goodIn_r _ [15] (by decide +kernel) (by decide +kernel)
set_option maxRecDepth 20000 in
theorem gX0_topicBetween_J9_floorMod_7cf53 : GoodIn wsX0_topicBetween (va_wsS RX0 231 yJ9_floorMod_7cf53 wsJ9_floorMod_7cf53) := goodIn_app (goodIn_of _ (by decide +kernel)) ggX0_topicBetween_J9_floorMod_7cf53
theorem dX0_topicBetween_0 : decode cX0_topicBetween 0 = .ok (.iload_n 0, 1) := by decide +kernel
theorem dX0_topicBetween_1 : decode cX0_topicBetween 1 = .ok (.iload_n 1, 1) := by decide +kernel
theorem dX0_topicBetween_2 : decode cX0_topicBetween 2 = .ok (.invokestatic 164, 3) := by decide +kernel
theorem dX0_topicBetween_5 : decode cX0_topicBetween 5 = .ok (.iconst 2, 1) := by decide +kernel
theorem dX0_topicBetween_6 : decode cX0_topicBetween 6 = .ok (.idiv, 1) := by decide +kernel
theorem dX0_topicBetween_7 : decode cX0_topicBetween 7 = .ok (.istore_n 2, 1) := by decide +kernel
theorem dX0_topicBetween_8 : decode cX0_topicBetween 8 = .ok (.iload_n 1, 1) := by decide +kernel
theorem dX0_topicBetween_9 : decode cX0_topicBetween 9 = .ok (.iload_n 0, 1) := by decide +kernel
theorem dX0_topicBetween_10 : decode cX0_topicBetween 10 = .ok (.isub, 1) := by decide +kernel
theorem dX0_topicBetween_11 : decode cX0_topicBetween 11 = .ok (.bipush 10, 2) := by decide +kernel
theorem dX0_topicBetween_13 : decode cX0_topicBetween 13 = .ok (.invokestatic 231, 3) := by decide +kernel
theorem dX0_topicBetween_16 : decode cX0_topicBetween 16 = .ok (.iconst 5, 1) := by decide +kernel
theorem dX0_topicBetween_17 : decode cX0_topicBetween 17 = .ok (.if_icmp .gt 7, 3) := by decide +kernel
theorem dX0_topicBetween_20 : decode cX0_topicBetween 20 = .ok (.iconst 1, 1) := by decide +kernel
theorem dX0_topicBetween_21 : decode cX0_topicBetween 21 = .ok (.goto 4, 3) := by decide +kernel
theorem dX0_topicBetween_24 : decode cX0_topicBetween 24 = .ok (.iconst 0, 1) := by decide +kernel
theorem dX0_topicBetween_25 : decode cX0_topicBetween 25 = .ok (.istore_n 3, 1) := by decide +kernel
theorem dX0_topicBetween_26 : decode cX0_topicBetween 26 = .ok (.iload_n 3, 1) := by decide +kernel
theorem dX0_topicBetween_27 : decode cX0_topicBetween 27 = .ok (.ifCond .eq 9, 3) := by decide +kernel
theorem dX0_topicBetween_30 : decode cX0_topicBetween 30 = .ok (.iload_n 0, 1) := by decide +kernel
theorem dX0_topicBetween_31 : decode cX0_topicBetween 31 = .ok (.iload_n 2, 1) := by decide +kernel
theorem dX0_topicBetween_32 : decode cX0_topicBetween 32 = .ok (.iadd, 1) := by decide +kernel
theorem dX0_topicBetween_33 : decode cX0_topicBetween 33 = .ok (.goto 6, 3) := by decide +kernel
theorem dX0_topicBetween_36 : decode cX0_topicBetween 36 = .ok (.iload_n 0, 1) := by decide +kernel
theorem dX0_topicBetween_37 : decode cX0_topicBetween 37 = .ok (.iload_n 2, 1) := by decide +kernel
theorem dX0_topicBetween_38 : decode cX0_topicBetween 38 = .ok (.isub, 1) := by decide +kernel
theorem dX0_topicBetween_39 : decode cX0_topicBetween 39 = .ok (.bipush 10, 2) := by decide +kernel
theorem dX0_topicBetween_41 : decode cX0_topicBetween 41 = .ok (.invokestatic 231, 3) := by decide +kernel
theorem dX0_topicBetween_44 : decode cX0_topicBetween 44 = .ok (.ireturn, 1) := by decide +kernel
theorem dX0_mostUnbrokenStrain_0 : decode cX0_mostUnbrokenStrain 0 = .ok (.iload_n 0, 1) := by decide +kernel
theorem dX0_mostUnbrokenStrain_1 : decode cX0_mostUnbrokenStrain 1 = .ok (.ifCond .eq 7, 3) := by decide +kernel
theorem dX0_mostUnbrokenStrain_4 : decode cX0_mostUnbrokenStrain 4 = .ok (.iconst 4, 1) := by decide +kernel
theorem dX0_mostUnbrokenStrain_5 : decode cX0_mostUnbrokenStrain 5 = .ok (.goto 4, 3) := by decide +kernel
theorem dX0_mostUnbrokenStrain_8 : decode cX0_mostUnbrokenStrain 8 = .ok (.iconst 2, 1) := by decide +kernel
theorem dX0_mostUnbrokenStrain_9 : decode cX0_mostUnbrokenStrain 9 = .ok (.ireturn, 1) := by decide +kernel
set_option maxRecDepth 20000 in
theorem ggX0_kindOf_X0_mostUnbrokenStrain : GoodIn wsX0_kindOf wsX0_mostUnbrokenStrain := goodIn_r _ [4] (by decide +kernel) (by decide +kernel)
set_option maxRecDepth 20000 in
theorem gX0_kindOf_X0_mostUnbrokenStrain : GoodIn wsX0_kindOf (va_wsS RX0 224 yX0_mostUnbrokenStrain wsX0_mostUnbrokenStrain) := goodIn_app (goodIn_of _ (by decide +kernel)) ggX0_kindOf_X0_mostUnbrokenStrain
theorem dX0_kindOf_0 : decode cX0_kindOf 0 = .ok (.iload_n 0, 1) := by decide +kernel
theorem dX0_kindOf_1 : decode cX0_kindOf 1 = .ok (.ifCond .ne 8, 3) := by decide +kernel
theorem dX0_kindOf_4 : decode cX0_kindOf 4 = .ok (.iload_n 1, 1) := by decide +kernel
theorem dX0_kindOf_5 : decode cX0_kindOf 5 = .ok (.iconst 1, 1) := by decide +kernel
theorem dX0_kindOf_6 : decode cX0_kindOf 6 = .ok (.if_icmp .gt 5, 3) := by decide +kernel
theorem dX0_kindOf_9 : decode cX0_kindOf 9 = .ok (.iconst 0, 1) := by decide +kernel
theorem dX0_kindOf_10 : decode cX0_kindOf 10 = .ok (.ireturn, 1) := by decide +kernel
theorem dX0_kindOf_11 : decode cX0_kindOf 11 = .ok (.iload_n 1, 1) := by decide +kernel
theorem dX0_kindOf_12 : decode cX0_kindOf 12 = .ok (.iload_n 2, 1) := by decide +kernel
theorem dX0_kindOf_13 : decode cX0_kindOf 13 = .ok (.invokestatic 224, 3) := by decide +kernel
theorem dX0_kindOf_16 : decode cX0_kindOf 16 = .ok (.if_icmp .gt 7, 3) := by decide +kernel
theorem dX0_kindOf_19 : decode cX0_kindOf 19 = .ok (.iconst 1, 1) := by decide +kernel
theorem dX0_kindOf_20 : decode cX0_kindOf 20 = .ok (.goto 4, 3) := by decide +kernel
theorem dX0_kindOf_23 : decode cX0_kindOf 23 = .ok (.iconst 2, 1) := by decide +kernel
theorem dX0_kindOf_24 : decode cX0_kindOf 24 = .ok (.ireturn, 1) := by decide +kernel
theorem dX0_mixed_0 : decode cX0_mixed 0 = .ok (.lload_n 0, 1) := by decide +kernel
theorem dX0_mixed_1 : decode cX0_mixed 1 = .ok (.ldc2_w 234, 3) := by decide +kernel
theorem dX0_mixed_4 : decode cX0_mixed 4 = .ok (.lmul, 1) := by decide +kernel
theorem dX0_mixed_5 : decode cX0_mixed 5 = .ok (.iload_n 2, 1) := by decide +kernel
theorem dX0_mixed_6 : decode cX0_mixed 6 = .ok (.i2l, 1) := by decide +kernel
theorem dX0_mixed_7 : decode cX0_mixed 7 = .ok (.ladd, 1) := by decide +kernel
theorem dX0_mixed_8 : decode cX0_mixed 8 = .ok (.lreturn, 1) := by decide +kernel
set_option maxRecDepth 20000 in
theorem ggX0_mixedFlag_X0_mixed : GoodIn wsX0_mixedFlag wsX0_mixed := goodIn_r _ [4, 5] (by decide +kernel) (by decide +kernel)
set_option maxRecDepth 20000 in
theorem gX0_mixedFlag_X0_mixed : GoodIn wsX0_mixedFlag (va_wsS RX0 173 yX0_mixed wsX0_mixed) := goodIn_app (goodIn_of _ (by decide +kernel)) ggX0_mixedFlag_X0_mixed
theorem dX0_mixedFlag_0 : decode cX0_mixedFlag 0 = .ok (.lload_n 0, 1) := by decide +kernel
theorem dX0_mixedFlag_1 : decode cX0_mixedFlag 1 = .ok (.iload_n 2, 1) := by decide +kernel
theorem dX0_mixedFlag_2 : decode cX0_mixedFlag 2 = .ok (.ifCond .eq 7, 3) := by decide +kernel
theorem dX0_mixedFlag_5 : decode cX0_mixedFlag 5 = .ok (.iconst 1, 1) := by decide +kernel
theorem dX0_mixedFlag_6 : decode cX0_mixedFlag 6 = .ok (.goto 4, 3) := by decide +kernel
theorem dX0_mixedFlag_9 : decode cX0_mixedFlag 9 = .ok (.iconst 0, 1) := by decide +kernel
theorem dX0_mixedFlag_10 : decode cX0_mixedFlag 10 = .ok (.invokestatic 173, 3) := by decide +kernel
theorem dX0_mixedFlag_13 : decode cX0_mixedFlag 13 = .ok (.lreturn, 1) := by decide +kernel
set_option maxRecDepth 20000 in
theorem ggX0_mixedWithRemarks_X0_coughStandsAt : GoodIn wsX0_mixedWithRemarks wsX0_coughStandsAt := goodIn_r _ [7, 8, 9, 10, 6, 11, 19, 20, 21, 22, 23, 24, 25, 26, 27, 28] (by decide +kernel) (by decide +kernel)
set_option maxRecDepth 20000 in
theorem gX0_mixedWithRemarks_X0_coughStandsAt : GoodIn wsX0_mixedWithRemarks (wsV RX0 46 RX0 yX0_coughStandsAt wsX0_coughStandsAt) := goodIn_app (goodIn_of _ (by decide +kernel)) ggX0_mixedWithRemarks_X0_coughStandsAt
set_option maxRecDepth 20000 in
theorem ggX0_mixedWithRemarks_X0_mixedFlag : GoodIn wsX0_mixedWithRemarks wsX0_mixedFlag := goodIn_r _ [14, 15, 16, 6, 17, 18] (by decide +kernel) (by decide +kernel)
set_option maxRecDepth 20000 in
theorem gX0_mixedWithRemarks_X0_mixedFlag : GoodIn wsX0_mixedWithRemarks (va_wsS RX0 236 yX0_mixedFlag wsX0_mixedFlag) := goodIn_app (goodIn_of _ (by decide +kernel)) ggX0_mixedWithRemarks_X0_mixedFlag
set_option maxRecDepth 20000 in
theorem ggX0_mixedWithRemarks_X0_read : GoodIn wsX0_mixedWithRemarks wsX0_read := goodIn_r _ [11] (by decide +kernel) (by decide +kernel)
set_option maxRecDepth 20000 in
theorem gX0_mixedWithRemarks_X0_read : GoodIn wsX0_mixedWithRemarks (va_wsS RX0 78 yX0_read wsX0_read) := goodIn_app (goodIn_of _ (by decide +kernel)) ggX0_mixedWithRemarks_X0_read
set_option maxRecDepth 20000 in
theorem ggX0_mixedWithRemarks_X0_mixed : GoodIn wsX0_mixedWithRemarks wsX0_mixed := goodIn_r _ [17, 18] (by decide +kernel) (by decide +kernel)
set_option maxRecDepth 20000 in
theorem gX0_mixedWithRemarks_X0_mixed : GoodIn wsX0_mixedWithRemarks (va_wsS RX0 173 yX0_mixed wsX0_mixed) := goodIn_app (goodIn_of _ (by decide +kernel)) ggX0_mixedWithRemarks_X0_mixed
theorem dX0_mixedWithRemarks_0 : decode cX0_mixedWithRemarks 0 = .ok (.lload_n 1, 1) := by decide +kernel
theorem dX0_mixedWithRemarks_1 : decode cX0_mixedWithRemarks 1 = .ok (.lstore_n 3, 1) := by decide +kernel
theorem dX0_mixedWithRemarks_2 : decode cX0_mixedWithRemarks 2 = .ok (.iconst 0, 1) := by decide +kernel
theorem dX0_mixedWithRemarks_3 : decode cX0_mixedWithRemarks 3 = .ok (.istore 5, 2) := by decide +kernel
theorem dX0_mixedWithRemarks_5 : decode cX0_mixedWithRemarks 5 = .ok (.iload 5, 2) := by decide +kernel
theorem dX0_mixedWithRemarks_7 : decode cX0_mixedWithRemarks 7 = .ok (.aload_n 0, 1) := by decide +kernel
theorem dX0_mixedWithRemarks_8 : decode cX0_mixedWithRemarks 8 = .ok (.getfield 69, 3) := by decide +kernel
theorem dX0_mixedWithRemarks_11 : decode cX0_mixedWithRemarks 11 = .ok (.if_icmp .ge 34, 3) := by decide +kernel
theorem dX0_mixedWithRemarks_14 : decode cX0_mixedWithRemarks 14 = .ok (.lload_n 3, 1) := by decide +kernel
theorem dX0_mixedWithRemarks_15 : decode cX0_mixedWithRemarks 15 = .ok (.aload_n 0, 1) := by decide +kernel
theorem dX0_mixedWithRemarks_16 : decode cX0_mixedWithRemarks 16 = .ok (.iload 5, 2) := by decide +kernel
theorem dX0_mixedWithRemarks_18 : decode cX0_mixedWithRemarks 18 = .ok (.invokevirtual 46, 3) := by decide +kernel
theorem dX0_mixedWithRemarks_21 : decode cX0_mixedWithRemarks 21 = .ok (.invokestatic 236, 3) := by decide +kernel
theorem dX0_mixedWithRemarks_24 : decode cX0_mixedWithRemarks 24 = .ok (.lstore_n 3, 1) := by decide +kernel
theorem dX0_mixedWithRemarks_25 : decode cX0_mixedWithRemarks 25 = .ok (.lload_n 3, 1) := by decide +kernel
theorem dX0_mixedWithRemarks_26 : decode cX0_mixedWithRemarks 26 = .ok (.aload_n 0, 1) := by decide +kernel
theorem dX0_mixedWithRemarks_27 : decode cX0_mixedWithRemarks 27 = .ok (.getfield 9, 3) := by decide +kernel
theorem dX0_mixedWithRemarks_30 : decode cX0_mixedWithRemarks 30 = .ok (.iload 5, 2) := by decide +kernel
theorem dX0_mixedWithRemarks_32 : decode cX0_mixedWithRemarks 32 = .ok (.invokestatic 78, 3) := by decide +kernel
theorem dX0_mixedWithRemarks_35 : decode cX0_mixedWithRemarks 35 = .ok (.invokestatic 173, 3) := by decide +kernel
theorem dX0_mixedWithRemarks_38 : decode cX0_mixedWithRemarks 38 = .ok (.lstore_n 3, 1) := by decide +kernel
theorem dX0_mixedWithRemarks_39 : decode cX0_mixedWithRemarks 39 = .ok (.iinc 5 1, 3) := by decide +kernel
theorem dX0_mixedWithRemarks_42 : decode cX0_mixedWithRemarks 42 = .ok (.goto (-37), 3) := by decide +kernel
theorem dX0_mixedWithRemarks_45 : decode cX0_mixedWithRemarks 45 = .ok (.lload_n 3, 1) := by decide +kernel
theorem dX0_mixedWithRemarks_46 : decode cX0_mixedWithRemarks 46 = .ok (.lreturn, 1) := by decide +kernel
set_option maxRecDepth 20000 in
theorem ggX0_mixedWithWords_X0_read : GoodIn wsX0_mixedWithWords wsX0_read := goodIn_r _ [6] (by decide +kernel) (by decide +kernel)
set_option maxRecDepth 20000 in
theorem gX0_mixedWithWords_X0_read : GoodIn wsX0_mixedWithWords (va_wsS RX0 78 yX0_read wsX0_read) := goodIn_app (goodIn_of _ (by decide +kernel)) ggX0_mixedWithWords_X0_read
set_option maxRecDepth 20000 in
theorem ggX0_mixedWithWords_X0_mixed : GoodIn wsX0_mixedWithWords wsX0_mixed := goodIn_r _ [9, 10] (by decide +kernel) (by decide +kernel)
set_option maxRecDepth 20000 in
theorem gX0_mixedWithWords_X0_mixed : GoodIn wsX0_mixedWithWords (va_wsS RX0 173 yX0_mixed wsX0_mixed) := goodIn_app (goodIn_of _ (by decide +kernel)) ggX0_mixedWithWords_X0_mixed
set_option maxRecDepth 20000 in
theorem ggX0_mixedWithWords_X0_topicOfWord : GoodIn wsX0_mixedWithWords wsX0_topicOfWord := goodIn_r _ [14, 15, 2, 3, 4, 5, 6, 21, 22, 23, 24, 25, 26, 27, 28, 29, 30] (by decide +kernel) (by decide +kernel)
set_option maxRecDepth 20000 in
theorem gX0_mixedWithWords_X0_topicOfWord : GoodIn wsX0_mixedWithWords (wsV RX0 93 RX0 yX0_topicOfWord wsX0_topicOfWord) := goodIn_app (goodIn_of _ (by decide +kernel)) ggX0_mixedWithWords_X0_topicOfWord
set_option maxRecDepth 20000 in
theorem ggX0_mixedWithWords_X0_threadOfWord : GoodIn wsX0_mixedWithWords wsX0_threadOfWord := goodIn_r _ [19, 20, 3, 4, 5, 6, 21, 22, 23, 24, 25, 26, 27, 28, 29, 30] (by decide +kernel) (by decide +kernel)
set_option maxRecDepth 20000 in
theorem gX0_mixedWithWords_X0_threadOfWord : GoodIn wsX0_mixedWithWords (wsV RX0 140 RX0 yX0_threadOfWord wsX0_threadOfWord) := goodIn_app (goodIn_of _ (by decide +kernel)) ggX0_mixedWithWords_X0_threadOfWord
theorem dX0_mixedWithWords_0 : decode cX0_mixedWithWords 0 = .ok (.lload_n 1, 1) := by decide +kernel
theorem dX0_mixedWithWords_1 : decode cX0_mixedWithWords 1 = .ok (.lstore_n 3, 1) := by decide +kernel
theorem dX0_mixedWithWords_2 : decode cX0_mixedWithWords 2 = .ok (.iconst 0, 1) := by decide +kernel
theorem dX0_mixedWithWords_3 : decode cX0_mixedWithWords 3 = .ok (.istore 5, 2) := by decide +kernel
theorem dX0_mixedWithWords_5 : decode cX0_mixedWithWords 5 = .ok (.iload 5, 2) := by decide +kernel
theorem dX0_mixedWithWords_7 : decode cX0_mixedWithWords 7 = .ok (.aload_n 0, 1) := by decide +kernel
theorem dX0_mixedWithWords_8 : decode cX0_mixedWithWords 8 = .ok (.getfield 116, 3) := by decide +kernel
theorem dX0_mixedWithWords_11 : decode cX0_mixedWithWords 11 = .ok (.if_icmp .ge 45, 3) := by decide +kernel
theorem dX0_mixedWithWords_14 : decode cX0_mixedWithWords 14 = .ok (.lload_n 3, 1) := by decide +kernel
theorem dX0_mixedWithWords_15 : decode cX0_mixedWithWords 15 = .ok (.aload_n 0, 1) := by decide +kernel
theorem dX0_mixedWithWords_16 : decode cX0_mixedWithWords 16 = .ok (.getfield 19, 3) := by decide +kernel
theorem dX0_mixedWithWords_19 : decode cX0_mixedWithWords 19 = .ok (.iload 5, 2) := by decide +kernel
theorem dX0_mixedWithWords_21 : decode cX0_mixedWithWords 21 = .ok (.invokestatic 78, 3) := by decide +kernel
theorem dX0_mixedWithWords_24 : decode cX0_mixedWithWords 24 = .ok (.invokestatic 173, 3) := by decide +kernel
theorem dX0_mixedWithWords_27 : decode cX0_mixedWithWords 27 = .ok (.lstore_n 3, 1) := by decide +kernel
theorem dX0_mixedWithWords_28 : decode cX0_mixedWithWords 28 = .ok (.lload_n 3, 1) := by decide +kernel
theorem dX0_mixedWithWords_29 : decode cX0_mixedWithWords 29 = .ok (.aload_n 0, 1) := by decide +kernel
theorem dX0_mixedWithWords_30 : decode cX0_mixedWithWords 30 = .ok (.iload 5, 2) := by decide +kernel
theorem dX0_mixedWithWords_32 : decode cX0_mixedWithWords 32 = .ok (.invokevirtual 93, 3) := by decide +kernel
theorem dX0_mixedWithWords_35 : decode cX0_mixedWithWords 35 = .ok (.invokestatic 173, 3) := by decide +kernel
theorem dX0_mixedWithWords_38 : decode cX0_mixedWithWords 38 = .ok (.lstore_n 3, 1) := by decide +kernel
theorem dX0_mixedWithWords_39 : decode cX0_mixedWithWords 39 = .ok (.lload_n 3, 1) := by decide +kernel
theorem dX0_mixedWithWords_40 : decode cX0_mixedWithWords 40 = .ok (.aload_n 0, 1) := by decide +kernel
theorem dX0_mixedWithWords_41 : decode cX0_mixedWithWords 41 = .ok (.iload 5, 2) := by decide +kernel
theorem dX0_mixedWithWords_43 : decode cX0_mixedWithWords 43 = .ok (.invokevirtual 140, 3) := by decide +kernel
theorem dX0_mixedWithWords_46 : decode cX0_mixedWithWords 46 = .ok (.invokestatic 173, 3) := by decide +kernel
theorem dX0_mixedWithWords_49 : decode cX0_mixedWithWords 49 = .ok (.lstore_n 3, 1) := by decide +kernel
theorem dX0_mixedWithWords_50 : decode cX0_mixedWithWords 50 = .ok (.iinc 5 1, 3) := by decide +kernel
theorem dX0_mixedWithWords_53 : decode cX0_mixedWithWords 53 = .ok (.goto (-48), 3) := by decide +kernel
theorem dX0_mixedWithWords_56 : decode cX0_mixedWithWords 56 = .ok (.lload_n 3, 1) := by decide +kernel
theorem dX0_mixedWithWords_57 : decode cX0_mixedWithWords 57 = .ok (.lreturn, 1) := by decide +kernel
set_option maxRecDepth 20000 in
theorem ggX0_mixedWithGaps_X0_gapCount : GoodIn wsX0_mixedWithGaps wsX0_gapCount := goodIn_r _ [5, 6, 69, 70, 71, 72, 73, 74, 75, 76, 77, 78] (by decide +kernel) (by decide +kernel)
set_option maxRecDepth 20000 in
theorem gX0_mixedWithGaps_X0_gapCount : GoodIn wsX0_mixedWithGaps (wsV RX0 157 RX0 yX0_gapCount wsX0_gapCount) := goodIn_app (goodIn_of _ (by decide +kernel)) ggX0_mixedWithGaps_X0_gapCount
set_option maxRecDepth 20000 in
theorem ggX0_mixedWithGaps_X0_coughsOfGap : GoodIn wsX0_mixedWithGaps wsX0_coughsOfGap := goodIn_r _ [10, 11, 12, 13, 4, 14, 69, 70, 71, 72, 73, 74, 75, 76, 77, 78] (by decide +kernel) (by decide +kernel)
set_option maxRecDepth 20000 in
theorem gX0_mixedWithGaps_X0_coughsOfGap : GoodIn wsX0_mixedWithGaps (wsV RX0 125 RX0 yX0_coughsOfGap wsX0_coughsOfGap) := goodIn_app (goodIn_of _ (by decide +kernel)) ggX0_mixedWithGaps_X0_coughsOfGap
set_option maxRecDepth 20000 in
theorem ggX0_mixedWithGaps_X0_mixed : GoodIn wsX0_mixedWithGaps wsX0_mixed := goodIn_r _ [17, 18] (by decide +kernel) (by decide +kernel)
set_option maxRecDepth 20000 in
theorem gX0_mixedWithGaps_X0_mixed : GoodIn wsX0_mixedWithGaps (va_wsS RX0 173 yX0_mixed wsX0_mixed) := goodIn_app (goodIn_of _ (by decide +kernel)) ggX0_mixedWithGaps_X0_mixed
set_option maxRecDepth 20000 in
theorem ggX0_mixedWithGaps_X0_strainOfGap : GoodIn wsX0_mixedWithGaps wsX0_strainOfGap := goodIn_r _ [22, 23, 24, 25, 4, 26, 27, 11, 12, 13, 14, 28, 29, 30, 31, 32, 33, 34, 35, 36, 37, 7, 8, 9, 10, 69, 70, 71, 72, 73, 74, 75, 76, 77, 78] (by decide +kernel) (by decide +kernel)
set_option maxRecDepth 20000 in
theorem gX0_mixedWithGaps_X0_strainOfGap : GoodIn wsX0_mixedWithGaps (wsV RX0 128 RX0 yX0_strainOfGap wsX0_strainOfGap) := goodIn_app (goodIn_of _ (by decide +kernel)) ggX0_mixedWithGaps_X0_strainOfGap
set_option maxRecDepth 20000 in
theorem ggX0_mixedWithGaps_X0_gapTied : GoodIn wsX0_mixedWithGaps wsX0_gapTied := goodIn_r _ [41, 42, 11, 12, 13, 4, 14, 69, 70, 71, 72, 73, 74, 75, 76, 77, 78] (by decide +kernel) (by decide +kernel)
set_option maxRecDepth 20000 in
theorem gX0_mixedWithGaps_X0_gapTied : GoodIn wsX0_mixedWithGaps (wsV RX0 131 RX0 yX0_gapTied wsX0_gapTied) := goodIn_app (goodIn_of _ (by decide +kernel)) ggX0_mixedWithGaps_X0_gapTied
set_option maxRecDepth 20000 in
theorem ggX0_mixedWithGaps_X0_mixedFlag : GoodIn wsX0_mixedWithGaps wsX0_mixedFlag := goodIn_r _ [45, 15, 16, 4, 17, 18] (by decide +kernel) (by decide +kernel)
set_option maxRecDepth 20000 in
theorem gX0_mixedWithGaps_X0_mixedFlag : GoodIn wsX0_mixedWithGaps (va_wsS RX0 236 yX0_mixedFlag wsX0_mixedFlag) := goodIn_app (goodIn_of _ (by decide +kernel)) ggX0_mixedWithGaps_X0_mixedFlag
set_option maxRecDepth 20000 in
theorem ggX0_mixedWithGaps_X0_kindOfGap : GoodIn wsX0_mixedWithGaps wsX0_kindOfGap := goodIn_r _ [49, 38, 39, 40, 4, 41, 42, 11, 12, 13, 14, 19, 20, 21, 22, 23, 24, 25, 26, 27, 28, 29, 30, 31, 32, 33, 34, 35, 36, 37, 7, 8, 9, 10, 50, 51, 52, 53, 54, 55, 56, 57, 58, 59, 60, 61, 62, 63, 64, 69, 70, 71, 72, 73, 74, 75, 76, 77, 78] (by decide +kernel) (by decide +kernel)
set_option maxRecDepth 20000 in
theorem gX0_mixedWithGaps_X0_kindOfGap : GoodIn wsX0_mixedWithGaps (wsV RX0 134 RX0 yX0_kindOfGap wsX0_kindOfGap) := goodIn_app (goodIn_of _ (by decide +kernel)) ggX0_mixedWithGaps_X0_kindOfGap
set_option maxRecDepth 20000 in
theorem ggX0_mixedWithGaps_X0_mendingCost : GoodIn wsX0_mixedWithGaps wsX0_mendingCost := goodIn_r _ [68, 35, 36, 33, 37, 46, 47, 48, 4, 49, 38, 39, 40, 41, 42, 11, 12, 13, 14, 19, 20, 21, 22, 23, 24, 25, 26, 27, 28, 29, 30, 31, 32, 34, 7, 8, 9, 10, 50, 51, 52, 53, 54, 55, 56, 57, 58, 59, 60, 61, 62, 63, 64, 69, 70, 71, 72, 73, 74, 75, 76, 77, 78] (by decide +kernel) (by decide +kernel)
set_option maxRecDepth 20000 in
theorem gX0_mixedWithGaps_X0_mendingCost : GoodIn wsX0_mixedWithGaps (wsV RX0 154 RX0 yX0_mendingCost wsX0_mendingCost) := goodIn_app (goodIn_of _ (by decide +kernel)) ggX0_mixedWithGaps_X0_mendingCost
theorem dX0_mixedWithGaps_0 : decode cX0_mixedWithGaps 0 = .ok (.lload_n 1, 1) := by decide +kernel
theorem dX0_mixedWithGaps_1 : decode cX0_mixedWithGaps 1 = .ok (.lstore_n 3, 1) := by decide +kernel
theorem dX0_mixedWithGaps_2 : decode cX0_mixedWithGaps 2 = .ok (.iconst 0, 1) := by decide +kernel
theorem dX0_mixedWithGaps_3 : decode cX0_mixedWithGaps 3 = .ok (.istore 5, 2) := by decide +kernel
theorem dX0_mixedWithGaps_5 : decode cX0_mixedWithGaps 5 = .ok (.iload 5, 2) := by decide +kernel
theorem dX0_mixedWithGaps_7 : decode cX0_mixedWithGaps 7 = .ok (.aload_n 0, 1) := by decide +kernel
theorem dX0_mixedWithGaps_8 : decode cX0_mixedWithGaps 8 = .ok (.invokevirtual 157, 3) := by decide +kernel
theorem dX0_mixedWithGaps_11 : decode cX0_mixedWithGaps 11 = .ok (.if_icmp .ge 73, 3) := by decide +kernel
theorem dX0_mixedWithGaps_14 : decode cX0_mixedWithGaps 14 = .ok (.lload_n 3, 1) := by decide +kernel
theorem dX0_mixedWithGaps_15 : decode cX0_mixedWithGaps 15 = .ok (.aload_n 0, 1) := by decide +kernel
theorem dX0_mixedWithGaps_16 : decode cX0_mixedWithGaps 16 = .ok (.iload 5, 2) := by decide +kernel
theorem dX0_mixedWithGaps_18 : decode cX0_mixedWithGaps 18 = .ok (.invokevirtual 125, 3) := by decide +kernel
theorem dX0_mixedWithGaps_21 : decode cX0_mixedWithGaps 21 = .ok (.invokestatic 173, 3) := by decide +kernel
theorem dX0_mixedWithGaps_24 : decode cX0_mixedWithGaps 24 = .ok (.lstore_n 3, 1) := by decide +kernel
theorem dX0_mixedWithGaps_25 : decode cX0_mixedWithGaps 25 = .ok (.lload_n 3, 1) := by decide +kernel
theorem dX0_mixedWithGaps_26 : decode cX0_mixedWithGaps 26 = .ok (.aload_n 0, 1) := by decide +kernel
theorem dX0_mixedWithGaps_27 : decode cX0_mixedWithGaps 27 = .ok (.iload 5, 2) := by decide +kernel
theorem dX0_mixedWithGaps_29 : decode cX0_mixedWithGaps 29 = .ok (.invokevirtual 128, 3) := by decide +kernel
theorem dX0_mixedWithGaps_32 : decode cX0_mixedWithGaps 32 = .ok (.invokestatic 173, 3) := by decide +kernel
theorem dX0_mixedWithGaps_35 : decode cX0_mixedWithGaps 35 = .ok (.lstore_n 3, 1) := by decide +kernel
theorem dX0_mixedWithGaps_36 : decode cX0_mixedWithGaps 36 = .ok (.lload_n 3, 1) := by decide +kernel
theorem dX0_mixedWithGaps_37 : decode cX0_mixedWithGaps 37 = .ok (.aload_n 0, 1) := by decide +kernel
theorem dX0_mixedWithGaps_38 : decode cX0_mixedWithGaps 38 = .ok (.iload 5, 2) := by decide +kernel
theorem dX0_mixedWithGaps_40 : decode cX0_mixedWithGaps 40 = .ok (.invokevirtual 131, 3) := by decide +kernel
theorem dX0_mixedWithGaps_43 : decode cX0_mixedWithGaps 43 = .ok (.invokestatic 236, 3) := by decide +kernel
theorem dX0_mixedWithGaps_46 : decode cX0_mixedWithGaps 46 = .ok (.lstore_n 3, 1) := by decide +kernel
theorem dX0_mixedWithGaps_47 : decode cX0_mixedWithGaps 47 = .ok (.lload_n 3, 1) := by decide +kernel
theorem dX0_mixedWithGaps_48 : decode cX0_mixedWithGaps 48 = .ok (.aload_n 0, 1) := by decide +kernel
theorem dX0_mixedWithGaps_49 : decode cX0_mixedWithGaps 49 = .ok (.iload 5, 2) := by decide +kernel
theorem dX0_mixedWithGaps_51 : decode cX0_mixedWithGaps 51 = .ok (.invokevirtual 134, 3) := by decide +kernel
theorem dX0_mixedWithGaps_54 : decode cX0_mixedWithGaps 54 = .ok (.iconst 2, 1) := by decide +kernel
theorem dX0_mixedWithGaps_55 : decode cX0_mixedWithGaps 55 = .ok (.if_icmp .ne 7, 3) := by decide +kernel
theorem dX0_mixedWithGaps_58 : decode cX0_mixedWithGaps 58 = .ok (.iconst 1, 1) := by decide +kernel
theorem dX0_mixedWithGaps_59 : decode cX0_mixedWithGaps 59 = .ok (.goto 4, 3) := by decide +kernel
theorem dX0_mixedWithGaps_62 : decode cX0_mixedWithGaps 62 = .ok (.iconst 0, 1) := by decide +kernel
theorem dX0_mixedWithGaps_63 : decode cX0_mixedWithGaps 63 = .ok (.invokestatic 236, 3) := by decide +kernel
theorem dX0_mixedWithGaps_66 : decode cX0_mixedWithGaps 66 = .ok (.lstore_n 3, 1) := by decide +kernel
theorem dX0_mixedWithGaps_67 : decode cX0_mixedWithGaps 67 = .ok (.lload_n 3, 1) := by decide +kernel
theorem dX0_mixedWithGaps_68 : decode cX0_mixedWithGaps 68 = .ok (.aload_n 0, 1) := by decide +kernel
theorem dX0_mixedWithGaps_69 : decode cX0_mixedWithGaps 69 = .ok (.iload 5, 2) := by decide +kernel
theorem dX0_mixedWithGaps_71 : decode cX0_mixedWithGaps 71 = .ok (.invokevirtual 154, 3) := by decide +kernel
theorem dX0_mixedWithGaps_74 : decode cX0_mixedWithGaps 74 = .ok (.invokestatic 173, 3) := by decide +kernel
theorem dX0_mixedWithGaps_77 : decode cX0_mixedWithGaps 77 = .ok (.lstore_n 3, 1) := by decide +kernel
theorem dX0_mixedWithGaps_78 : decode cX0_mixedWithGaps 78 = .ok (.iinc 5 1, 3) := by decide +kernel
theorem dX0_mixedWithGaps_81 : decode cX0_mixedWithGaps 81 = .ok (.goto (-76), 3) := by decide +kernel
theorem dX0_mixedWithGaps_84 : decode cX0_mixedWithGaps 84 = .ok (.lload_n 3, 1) := by decide +kernel
theorem dX0_mixedWithGaps_85 : decode cX0_mixedWithGaps 85 = .ok (.lreturn, 1) := by decide +kernel
theorem dX0_read_0 : decode cX0_read 0 = .ok (.iload_n 1, 1) := by decide +kernel
theorem dX0_read_1 : decode cX0_read 1 = .ok (.ifCond .lt 15, 3) := by decide +kernel
theorem dX0_read_4 : decode cX0_read 4 = .ok (.iload_n 1, 1) := by decide +kernel
theorem dX0_read_5 : decode cX0_read 5 = .ok (.aload_n 0, 1) := by decide +kernel
theorem dX0_read_6 : decode cX0_read 6 = .ok (.arraylength, 1) := by decide +kernel
theorem dX0_read_7 : decode cX0_read 7 = .ok (.if_icmp .ge 9, 3) := by decide +kernel
theorem dX0_read_10 : decode cX0_read 10 = .ok (.aload_n 0, 1) := by decide +kernel
theorem dX0_read_11 : decode cX0_read 11 = .ok (.iload_n 1, 1) := by decide +kernel
theorem dX0_read_12 : decode cX0_read 12 = .ok (.iaload, 1) := by decide +kernel
theorem dX0_read_13 : decode cX0_read 13 = .ok (.goto 4, 3) := by decide +kernel
theorem dX0_read_16 : decode cX0_read 16 = .ok (.iconst 0, 1) := by decide +kernel
theorem dX0_read_17 : decode cX0_read 17 = .ok (.ireturn, 1) := by decide +kernel
theorem dX0_write_0 : decode cX0_write 0 = .ok (.iload_n 1, 1) := by decide +kernel
theorem dX0_write_1 : decode cX0_write 1 = .ok (.ifCond .lt 13, 3) := by decide +kernel
theorem dX0_write_4 : decode cX0_write 4 = .ok (.iload_n 1, 1) := by decide +kernel
theorem dX0_write_5 : decode cX0_write 5 = .ok (.aload_n 0, 1) := by decide +kernel
theorem dX0_write_6 : decode cX0_write 6 = .ok (.arraylength, 1) := by decide +kernel
theorem dX0_write_7 : decode cX0_write 7 = .ok (.if_icmp .ge 7, 3) := by decide +kernel
theorem dX0_write_10 : decode cX0_write 10 = .ok (.aload_n 0, 1) := by decide +kernel
theorem dX0_write_11 : decode cX0_write 11 = .ok (.iload_n 1, 1) := by decide +kernel
theorem dX0_write_12 : decode cX0_write 12 = .ok (.iload_n 2, 1) := by decide +kernel
theorem dX0_write_13 : decode cX0_write 13 = .ok (.iastore, 1) := by decide +kernel
theorem dX0_write_14 : decode cX0_write 14 = .ok (.return_, 1) := by decide +kernel
theorem dX1_init_0 : decode cX1_init 0 = .ok (.aload_n 0, 1) := by decide +kernel
theorem dX1_init_1 : decode cX1_init 1 = .ok (.invokespecial 1, 3) := by decide +kernel
theorem dX1_init_4 : decode cX1_init 4 = .ok (.aload_n 0, 1) := by decide +kernel
theorem dX1_init_5 : decode cX1_init 5 = .ok (.bipush 30, 2) := by decide +kernel
theorem dX1_init_7 : decode cX1_init 7 = .ok (.putfield 7, 3) := by decide +kernel
theorem dX1_init_10 : decode cX1_init 10 = .ok (.aload_n 0, 1) := by decide +kernel
theorem dX1_init_11 : decode cX1_init 11 = .ok (.bipush 25, 2) := by decide +kernel
theorem dX1_init_13 : decode cX1_init 13 = .ok (.newarray .int, 2) := by decide +kernel
theorem dX1_init_15 : decode cX1_init 15 = .ok (.putfield 13, 3) := by decide +kernel
theorem dX1_init_18 : decode cX1_init 18 = .ok (.aload_n 0, 1) := by decide +kernel
theorem dX1_init_19 : decode cX1_init 19 = .ok (.bipush 25, 2) := by decide +kernel
theorem dX1_init_21 : decode cX1_init 21 = .ok (.newarray .int, 2) := by decide +kernel
theorem dX1_init_23 : decode cX1_init 23 = .ok (.putfield 17, 3) := by decide +kernel
theorem dX1_init_26 : decode cX1_init 26 = .ok (.aload_n 0, 1) := by decide +kernel
theorem dX1_init_27 : decode cX1_init 27 = .ok (.bipush 25, 2) := by decide +kernel
theorem dX1_init_29 : decode cX1_init 29 = .ok (.newarray .boolean, 2) := by decide +kernel
theorem dX1_init_31 : decode cX1_init 31 = .ok (.putfield 20, 3) := by decide +kernel
theorem dX1_init_34 : decode cX1_init 34 = .ok (.return_, 1) := by decide +kernel
theorem dX1_thrown_0 : decode cX1_thrown 0 = .ok (.aload_n 0, 1) := by decide +kernel
theorem dX1_thrown_1 : decode cX1_thrown 1 = .ok (.getfield 24, 3) := by decide +kernel
theorem dX1_thrown_4 : decode cX1_thrown 4 = .ok (.ireturn, 1) := by decide +kernel
theorem dX1_fail_0 : decode cX1_fail 0 = .ok (.aload_n 0, 1) := by decide +kernel
theorem dX1_fail_1 : decode cX1_fail 1 = .ok (.iload_n 1, 1) := by decide +kernel
theorem dX1_fail_2 : decode cX1_fail 2 = .ok (.putfield 24, 3) := by decide +kernel
theorem dX1_fail_5 : decode cX1_fail 5 = .ok (.iconst 0, 1) := by decide +kernel
theorem dX1_fail_6 : decode cX1_fail 6 = .ok (.ireturn, 1) := by decide +kernel
theorem dX1_told_0 : decode cX1_told 0 = .ok (.aload_n 0, 1) := by decide +kernel
theorem dX1_told_1 : decode cX1_told 1 = .ok (.iconst 0, 1) := by decide +kernel
theorem dX1_told_2 : decode cX1_told 2 = .ok (.putfield 24, 3) := by decide +kernel
theorem dX1_told_5 : decode cX1_told 5 = .ok (.iload_n 1, 1) := by decide +kernel
theorem dX1_told_6 : decode cX1_told 6 = .ok (.ireturn, 1) := by decide +kernel
theorem dX1_isIn_0 : decode cX1_isIn 0 = .ok (.iload_n 0, 1) := by decide +kernel
theorem dX1_isIn_1 : decode cX1_isIn 1 = .ok (.iload_n 1, 1) := by decide +kernel
theorem dX1_isIn_2 : decode cX1_isIn 2 = .ok (.if_icmp .lt 12, 3) := by decide +kernel
theorem dX1_isIn_5 : decode cX1_isIn 5 = .ok (.iload_n 0, 1) := by decide +kernel
theorem dX1_isIn_6 : decode cX1_isIn 6 = .ok (.iload_n 2, 1) := by decide +kernel
theorem dX1_isIn_7 : decode cX1_isIn 7 = .ok (.if_icmp .gt 7, 3) := by decide +kernel
theorem dX1_isIn_10 : decode cX1_isIn 10 = .ok (.iconst 1, 1) := by decide +kernel
theorem dX1_isIn_11 : decode cX1_isIn 11 = .ok (.goto 4, 3) := by decide +kernel
theorem dX1_isIn_14 : decode cX1_isIn 14 = .ok (.iconst 0, 1) := by decide +kernel
theorem dX1_isIn_15 : decode cX1_isIn 15 = .ok (.ireturn, 1) := by decide +kernel
set_option maxRecDepth 20000 in
theorem ggX1_isSpeaker_X1_isIn : GoodIn wsX1_isSpeaker wsX1_isIn := goodIn_r _ [4] (by decide +kernel) (by decide +kernel)
set_option maxRecDepth 20000 in
theorem gX1_isSpeaker_X1_isIn : GoodIn wsX1_isSpeaker (va_wsS RX1 27 yX1_isIn wsX1_isIn) := goodIn_app (goodIn_of _ (by decide +kernel)) ggX1_isSpeaker_X1_isIn
theorem dX1_isSpeaker_0 : decode cX1_isSpeaker 0 = .ok (.iload_n 0, 1) := by decide +kernel
theorem dX1_isSpeaker_1 : decode cX1_isSpeaker 1 = .ok (.iconst 0, 1) := by decide +kernel
theorem dX1_isSpeaker_2 : decode cX1_isSpeaker 2 = .ok (.iconst 5, 1) := by decide +kernel
theorem dX1_isSpeaker_3 : decode cX1_isSpeaker 3 = .ok (.invokestatic 27, 3) := by decide +kernel
theorem dX1_isSpeaker_6 : decode cX1_isSpeaker 6 = .ok (.ireturn, 1) := by decide +kernel
set_option maxRecDepth 20000 in
theorem ggX1_isPlace_X1_isIn : GoodIn wsX1_isPlace wsX1_isIn := goodIn_r _ [5] (by decide +kernel) (by decide +kernel)
set_option maxRecDepth 20000 in
theorem gX1_isPlace_X1_isIn : GoodIn wsX1_isPlace (va_wsS RX1 27 yX1_isIn wsX1_isIn) := goodIn_app (goodIn_of _ (by decide +kernel)) ggX1_isPlace_X1_isIn
theorem dX1_isPlace_0 : decode cX1_isPlace 0 = .ok (.iload_n 1, 1) := by decide +kernel
theorem dX1_isPlace_1 : decode cX1_isPlace 1 = .ok (.iconst 0, 1) := by decide +kernel
theorem dX1_isPlace_2 : decode cX1_isPlace 2 = .ok (.aload_n 0, 1) := by decide +kernel
theorem dX1_isPlace_3 : decode cX1_isPlace 3 = .ok (.getfield 31, 3) := by decide +kernel
theorem dX1_isPlace_6 : decode cX1_isPlace 6 = .ok (.iconst 1, 1) := by decide +kernel
theorem dX1_isPlace_7 : decode cX1_isPlace 7 = .ok (.isub, 1) := by decide +kernel
theorem dX1_isPlace_8 : decode cX1_isPlace 8 = .ok (.invokestatic 27, 3) := by decide +kernel
theorem dX1_isPlace_11 : decode cX1_isPlace 11 = .ok (.ireturn, 1) := by decide +kernel
theorem dX1_many_0 : decode cX1_many 0 = .ok (.iconst 0, 1) := by decide +kernel
theorem dX1_many_1 : decode cX1_many 1 = .ok (.istore_n 1, 1) := by decide +kernel
theorem dX1_many_2 : decode cX1_many 2 = .ok (.iconst 0, 1) := by decide +kernel
theorem dX1_many_3 : decode cX1_many 3 = .ok (.istore_n 2, 1) := by decide +kernel
theorem dX1_many_4 : decode cX1_many 4 = .ok (.iload_n 2, 1) := by decide +kernel
theorem dX1_many_5 : decode cX1_many 5 = .ok (.aload_n 0, 1) := by decide +kernel
theorem dX1_many_6 : decode cX1_many 6 = .ok (.getfield 31, 3) := by decide +kernel
theorem dX1_many_9 : decode cX1_many 9 = .ok (.if_icmp .ge 26, 3) := by decide +kernel
theorem dX1_many_12 : decode cX1_many 12 = .ok (.iload_n 1, 1) := by decide +kernel
theorem dX1_many_13 : decode cX1_many 13 = .ok (.aload_n 0, 1) := by decide +kernel
theorem dX1_many_14 : decode cX1_many 14 = .ok (.getfield 13, 3) := by decide +kernel
theorem dX1_many_17 : decode cX1_many 17 = .ok (.iload_n 2, 1) := by decide +kernel
theorem dX1_many_18 : decode cX1_many 18 = .ok (.iaload, 1) := by decide +kernel
theorem dX1_many_19 : decode cX1_many 19 = .ok (.ifCond .ge 7, 3) := by decide +kernel
theorem dX1_many_22 : decode cX1_many 22 = .ok (.iconst 0, 1) := by decide +kernel
theorem dX1_many_23 : decode cX1_many 23 = .ok (.goto 4, 3) := by decide +kernel
theorem dX1_many_26 : decode cX1_many 26 = .ok (.iconst 1, 1) := by decide +kernel
theorem dX1_many_27 : decode cX1_many 27 = .ok (.iadd, 1) := by decide +kernel
theorem dX1_many_28 : decode cX1_many 28 = .ok (.istore_n 1, 1) := by decide +kernel
theorem dX1_many_29 : decode cX1_many 29 = .ok (.iinc 2 1, 3) := by decide +kernel
theorem dX1_many_32 : decode cX1_many 32 = .ok (.goto (-28), 3) := by decide +kernel
theorem dX1_many_35 : decode cX1_many 35 = .ok (.iload_n 1, 1) := by decide +kernel
theorem dX1_many_36 : decode cX1_many 36 = .ok (.ireturn, 1) := by decide +kernel
set_option maxRecDepth 20000 in
theorem ggX1_isWord_X1_many : GoodIn wsX1_isWord wsX1_many := goodIn_r _ [5, 6, 7, 11, 12, 13, 14, 15, 16, 17] (by decide +kernel) (by decide +kernel)
set_option maxRecDepth 20000 in
theorem gX1_isWord_X1_many : GoodIn wsX1_isWord (wsV RX1 34 RX1 yX1_many wsX1_many) := goodIn_app (goodIn_of _ (by decide +kernel)) ggX1_isWord_X1_many
set_option maxRecDepth 20000 in
theorem ggX1_isWord_X1_isIn : GoodIn wsX1_isWord wsX1_isIn := goodIn_r _ [10] (by decide +kernel) (by decide +kernel)
set_option maxRecDepth 20000 in
theorem gX1_isWord_X1_isIn : GoodIn wsX1_isWord (va_wsS RX1 27 yX1_isIn wsX1_isIn) := goodIn_app (goodIn_of _ (by decide +kernel)) ggX1_isWord_X1_isIn
theorem dX1_isWord_0 : decode cX1_isWord 0 = .ok (.iload_n 1, 1) := by decide +kernel
theorem dX1_isWord_1 : decode cX1_isWord 1 = .ok (.iconst 0, 1) := by decide +kernel
theorem dX1_isWord_2 : decode cX1_isWord 2 = .ok (.aload_n 0, 1) := by decide +kernel
theorem dX1_isWord_3 : decode cX1_isWord 3 = .ok (.invokevirtual 34, 3) := by decide +kernel
theorem dX1_isWord_6 : decode cX1_isWord 6 = .ok (.iconst 1, 1) := by decide +kernel
theorem dX1_isWord_7 : decode cX1_isWord 7 = .ok (.isub, 1) := by decide +kernel
theorem dX1_isWord_8 : decode cX1_isWord 8 = .ok (.invokestatic 27, 3) := by decide +kernel
theorem dX1_isWord_11 : decode cX1_isWord 11 = .ok (.ireturn, 1) := by decide +kernel
set_option maxRecDepth 20000 in
theorem ggX1_isGap_X1_many : GoodIn wsX1_isGap wsX1_many := goodIn_r _ [5, 6, 7, 11, 12, 13, 14, 15, 16, 17] (by decide +kernel) (by decide +kernel)
set_option maxRecDepth 20000 in
theorem gX1_isGap_X1_many : GoodIn wsX1_isGap (wsV RX1 34 RX1 yX1_many wsX1_many) := goodIn_app (goodIn_of _ (by decide +kernel)) ggX1_isGap_X1_many
set_option maxRecDepth 20000 in
theorem ggX1_isGap_X1_isIn : GoodIn wsX1_isGap wsX1_isIn := goodIn_r _ [10] (by decide +kernel) (by decide +kernel)
set_option maxRecDepth 20000 in
theorem gX1_isGap_X1_isIn : GoodIn wsX1_isGap (va_wsS RX1 27 yX1_isIn wsX1_isIn) := goodIn_app (goodIn_of _ (by decide +kernel)) ggX1_isGap_X1_isIn
theorem dX1_isGap_0 : decode cX1_isGap 0 = .ok (.iload_n 1, 1) := by decide +kernel
theorem dX1_isGap_1 : decode cX1_isGap 1 = .ok (.iconst 0, 1) := by decide +kernel
theorem dX1_isGap_2 : decode cX1_isGap 2 = .ok (.aload_n 0, 1) := by decide +kernel
theorem dX1_isGap_3 : decode cX1_isGap 3 = .ok (.invokevirtual 34, 3) := by decide +kernel
theorem dX1_isGap_6 : decode cX1_isGap 6 = .ok (.iconst 2, 1) := by decide +kernel
theorem dX1_isGap_7 : decode cX1_isGap 7 = .ok (.isub, 1) := by decide +kernel
theorem dX1_isGap_8 : decode cX1_isGap 8 = .ok (.invokestatic 27, 3) := by decide +kernel
theorem dX1_isGap_11 : decode cX1_isGap 11 = .ok (.ireturn, 1) := by decide +kernel
theorem dX1_place_0 : decode cX1_place 0 = .ok (.iload_n 1, 1) := by decide +kernel
theorem dX1_place_1 : decode cX1_place 1 = .ok (.istore_n 2, 1) := by decide +kernel
theorem dX1_place_2 : decode cX1_place 2 = .ok (.iconst 0, 1) := by decide +kernel
theorem dX1_place_3 : decode cX1_place 3 = .ok (.istore_n 3, 1) := by decide +kernel
theorem dX1_place_4 : decode cX1_place 4 = .ok (.aload_n 0, 1) := by decide +kernel
theorem dX1_place_5 : decode cX1_place 5 = .ok (.getfield 13, 3) := by decide +kernel
theorem dX1_place_8 : decode cX1_place 8 = .ok (.iload_n 3, 1) := by decide +kernel
theorem dX1_place_9 : decode cX1_place 9 = .ok (.iaload, 1) := by decide +kernel
theorem dX1_place_10 : decode cX1_place 10 = .ok (.ifCond .lt 7, 3) := by decide +kernel
theorem dX1_place_13 : decode cX1_place 13 = .ok (.iload_n 2, 1) := by decide +kernel
theorem dX1_place_14 : decode cX1_place 14 = .ok (.ifCond .le 26, 3) := by decide +kernel
theorem dX1_place_17 : decode cX1_place 17 = .ok (.iload_n 2, 1) := by decide +kernel
theorem dX1_place_18 : decode cX1_place 18 = .ok (.aload_n 0, 1) := by decide +kernel
theorem dX1_place_19 : decode cX1_place 19 = .ok (.getfield 13, 3) := by decide +kernel
theorem dX1_place_22 : decode cX1_place 22 = .ok (.iload_n 3, 1) := by decide +kernel
theorem dX1_place_23 : decode cX1_place 23 = .ok (.iaload, 1) := by decide +kernel
theorem dX1_place_24 : decode cX1_place 24 = .ok (.ifCond .ge 7, 3) := by decide +kernel
theorem dX1_place_27 : decode cX1_place 27 = .ok (.iconst 0, 1) := by decide +kernel
theorem dX1_place_28 : decode cX1_place 28 = .ok (.goto 4, 3) := by decide +kernel
theorem dX1_place_31 : decode cX1_place 31 = .ok (.iconst 1, 1) := by decide +kernel
theorem dX1_place_32 : decode cX1_place 32 = .ok (.isub, 1) := by decide +kernel
theorem dX1_place_33 : decode cX1_place 33 = .ok (.istore_n 2, 1) := by decide +kernel
theorem dX1_place_34 : decode cX1_place 34 = .ok (.iinc 3 1, 3) := by decide +kernel
theorem dX1_place_37 : decode cX1_place 37 = .ok (.goto (-33), 3) := by decide +kernel
theorem dX1_place_40 : decode cX1_place 40 = .ok (.iload_n 3, 1) := by decide +kernel
theorem dX1_place_41 : decode cX1_place 41 = .ok (.ireturn, 1) := by decide +kernel
theorem dX1_apart_0 : decode cX1_apart 0 = .ok (.iload_n 0, 1) := by decide +kernel
theorem dX1_apart_1 : decode cX1_apart 1 = .ok (.iload_n 1, 1) := by decide +kernel
theorem dX1_apart_2 : decode cX1_apart 2 = .ok (.isub, 1) := by decide +kernel
theorem dX1_apart_3 : decode cX1_apart 3 = .ok (.invokestatic 38, 3) := by decide +kernel
theorem dX1_apart_6 : decode cX1_apart 6 = .ok (.istore_n 2, 1) := by decide +kernel
theorem dX1_apart_7 : decode cX1_apart 7 = .ok (.iload_n 2, 1) := by decide +kernel
theorem dX1_apart_8 : decode cX1_apart 8 = .ok (.bipush 10, 2) := by decide +kernel
theorem dX1_apart_10 : decode cX1_apart 10 = .ok (.iload_n 2, 1) := by decide +kernel
theorem dX1_apart_11 : decode cX1_apart 11 = .ok (.isub, 1) := by decide +kernel
theorem dX1_apart_12 : decode cX1_apart 12 = .ok (.invokestatic 44, 3) := by decide +kernel
theorem dX1_apart_15 : decode cX1_apart 15 = .ok (.ireturn, 1) := by decide +kernel
set_option maxRecDepth 20000 in
theorem ggX1_from_X1_place : GoodIn wsX1_from wsX1_place := goodIn_r _ [5, 6, 7, 8, 9, 10, 11, 12, 13] (by decide +kernel) (by decide +kernel)
set_option maxRecDepth 20000 in
theorem gX1_from_X1_place : GoodIn wsX1_from (wsV RX1 48 RX1 yX1_place wsX1_place) := goodIn_app (goodIn_of _ (by decide +kernel)) ggX1_from_X1_place
theorem dX1_from_0 : decode cX1_from 0 = .ok (.aload_n 0, 1) := by decide +kernel
theorem dX1_from_1 : decode cX1_from 1 = .ok (.iload_n 1, 1) := by decide +kernel
theorem dX1_from_2 : decode cX1_from 2 = .ok (.invokevirtual 48, 3) := by decide +kernel
theorem dX1_from_5 : decode cX1_from 5 = .ok (.ireturn, 1) := by decide +kernel
set_option maxRecDepth 20000 in
theorem ggX1_to_X1_place : GoodIn wsX1_to wsX1_place := goodIn_r _ [5, 6, 7, 8, 9, 10, 11, 12, 13] (by decide +kernel) (by decide +kernel)
set_option maxRecDepth 20000 in
theorem gX1_to_X1_place : GoodIn wsX1_to (wsV RX1 48 RX1 yX1_place wsX1_place) := goodIn_app (goodIn_of _ (by decide +kernel)) ggX1_to_X1_place
theorem dX1_to_0 : decode cX1_to 0 = .ok (.aload_n 0, 1) := by decide +kernel
theorem dX1_to_1 : decode cX1_to 1 = .ok (.iload_n 1, 1) := by decide +kernel
theorem dX1_to_2 : decode cX1_to 2 = .ok (.iconst 1, 1) := by decide +kernel
theorem dX1_to_3 : decode cX1_to 3 = .ok (.iadd, 1) := by decide +kernel
theorem dX1_to_4 : decode cX1_to 4 = .ok (.invokevirtual 48, 3) := by decide +kernel
theorem dX1_to_7 : decode cX1_to 7 = .ok (.ireturn, 1) := by decide +kernel
set_option maxRecDepth 20000 in
theorem ggX1_coughsOf_X1_to : GoodIn wsX1_coughsOf wsX1_to := goodIn_r _ [5, 6, 7, 8, 4, 9, 10, 15, 16, 17, 18, 19, 20, 21] (by decide +kernel) (by decide +kernel)
set_option maxRecDepth 20000 in
theorem gX1_coughsOf_X1_to : GoodIn wsX1_coughsOf (wsV RX1 51 RX1 yX1_to wsX1_to) := goodIn_app (goodIn_of _ (by decide +kernel)) ggX1_coughsOf_X1_to
set_option maxRecDepth 20000 in
theorem ggX1_coughsOf_X1_from : GoodIn wsX1_coughsOf wsX1_from := goodIn_r _ [14, 6, 7, 8, 4, 9, 10, 15, 16, 17, 18, 19, 20, 21] (by decide +kernel) (by decide +kernel)
set_option maxRecDepth 20000 in
theorem gX1_coughsOf_X1_from : GoodIn wsX1_coughsOf (wsV RX1 54 RX1 yX1_from wsX1_from) := goodIn_app (goodIn_of _ (by decide +kernel)) ggX1_coughsOf_X1_from
theorem dX1_coughsOf_0 : decode cX1_coughsOf 0 = .ok (.aload_n 0, 1) := by decide +kernel
theorem dX1_coughsOf_1 : decode cX1_coughsOf 1 = .ok (.iload_n 1, 1) := by decide +kernel
theorem dX1_coughsOf_2 : decode cX1_coughsOf 2 = .ok (.invokevirtual 51, 3) := by decide +kernel
theorem dX1_coughsOf_5 : decode cX1_coughsOf 5 = .ok (.aload_n 0, 1) := by decide +kernel
theorem dX1_coughsOf_6 : decode cX1_coughsOf 6 = .ok (.iload_n 1, 1) := by decide +kernel
theorem dX1_coughsOf_7 : decode cX1_coughsOf 7 = .ok (.invokevirtual 54, 3) := by decide +kernel
theorem dX1_coughsOf_10 : decode cX1_coughsOf 10 = .ok (.isub, 1) := by decide +kernel
theorem dX1_coughsOf_11 : decode cX1_coughsOf 11 = .ok (.iconst 1, 1) := by decide +kernel
theorem dX1_coughsOf_12 : decode cX1_coughsOf 12 = .ok (.isub, 1) := by decide +kernel
theorem dX1_coughsOf_13 : decode cX1_coughsOf 13 = .ok (.ireturn, 1) := by decide +kernel
set_option maxRecDepth 20000 in
theorem ggX1_strain_X1_from : GoodIn wsX1_strain wsX1_from := goodIn_r _ [6, 7, 8, 9, 5, 10, 1, 29, 30, 31, 32, 33, 34, 35] (by decide +kernel) (by decide +kernel)
set_option maxRecDepth 20000 in
theorem gX1_strain_X1_from : GoodIn wsX1_strain (wsV RX1 54 RX1 yX1_from wsX1_from) := goodIn_app (goodIn_of _ (by decide +kernel)) ggX1_strain_X1_from
set_option maxRecDepth 20000 in
theorem ggX1_strain_X1_to : GoodIn wsX1_strain wsX1_to := goodIn_r _ [14, 7, 8, 9, 5, 10, 1, 29, 30, 31, 32, 33, 34, 35] (by decide +kernel) (by decide +kernel)
set_option maxRecDepth 20000 in
theorem gX1_strain_X1_to : GoodIn wsX1_strain (wsV RX1 51 RX1 yX1_to wsX1_to) := goodIn_app (goodIn_of _ (by decide +kernel)) ggX1_strain_X1_to
set_option maxRecDepth 20000 in
theorem ggX1_strain_X1_apart : GoodIn wsX1_strain wsX1_apart := goodIn_r _ [17, 18, 19, 20, 21, 22, 23, 24] (by decide +kernel) (by decide +kernel)
set_option maxRecDepth 20000 in
theorem gX1_strain_X1_apart : GoodIn wsX1_strain (va_wsS RX1 57 yX1_apart wsX1_apart) := goodIn_app (goodIn_of _ (by decide +kernel)) ggX1_strain_X1_apart
set_option maxRecDepth 20000 in
theorem ggX1_strain_X1_coughsOf : GoodIn wsX1_strain wsX1_coughsOf := goodIn_r _ [28, 11, 12, 13, 5, 14, 7, 8, 9, 10, 1, 2, 3, 4, 6, 29, 30, 31, 32, 33, 34, 35] (by decide +kernel) (by decide +kernel)
set_option maxRecDepth 20000 in
theorem gX1_strain_X1_coughsOf : GoodIn wsX1_strain (wsV RX1 60 RX1 yX1_coughsOf wsX1_coughsOf) := goodIn_app (goodIn_of _ (by decide +kernel)) ggX1_strain_X1_coughsOf
theorem dX1_strain_0 : decode cX1_strain 0 = .ok (.aload_n 0, 1) := by decide +kernel
theorem dX1_strain_1 : decode cX1_strain 1 = .ok (.getfield 13, 3) := by decide +kernel
theorem dX1_strain_4 : decode cX1_strain 4 = .ok (.aload_n 0, 1) := by decide +kernel
theorem dX1_strain_5 : decode cX1_strain 5 = .ok (.iload_n 1, 1) := by decide +kernel
theorem dX1_strain_6 : decode cX1_strain 6 = .ok (.invokevirtual 54, 3) := by decide +kernel
theorem dX1_strain_9 : decode cX1_strain 9 = .ok (.iaload, 1) := by decide +kernel
theorem dX1_strain_10 : decode cX1_strain 10 = .ok (.aload_n 0, 1) := by decide +kernel
theorem dX1_strain_11 : decode cX1_strain 11 = .ok (.getfield 13, 3) := by decide +kernel
theorem dX1_strain_14 : decode cX1_strain 14 = .ok (.aload_n 0, 1) := by decide +kernel
theorem dX1_strain_15 : decode cX1_strain 15 = .ok (.iload_n 1, 1) := by decide +kernel
theorem dX1_strain_16 : decode cX1_strain 16 = .ok (.invokevirtual 51, 3) := by decide +kernel
theorem dX1_strain_19 : decode cX1_strain 19 = .ok (.iaload, 1) := by decide +kernel
theorem dX1_strain_20 : decode cX1_strain 20 = .ok (.invokestatic 57, 3) := by decide +kernel
theorem dX1_strain_23 : decode cX1_strain 23 = .ok (.aload_n 0, 1) := by decide +kernel
theorem dX1_strain_24 : decode cX1_strain 24 = .ok (.iload_n 1, 1) := by decide +kernel
theorem dX1_strain_25 : decode cX1_strain 25 = .ok (.invokevirtual 60, 3) := by decide +kernel
theorem dX1_strain_28 : decode cX1_strain 28 = .ok (.iadd, 1) := by decide +kernel
theorem dX1_strain_29 : decode cX1_strain 29 = .ok (.ireturn, 1) := by decide +kernel
set_option maxRecDepth 20000 in
theorem ggX1_areSame_X1_from : GoodIn wsX1_areSame wsX1_from := goodIn_r _ [6, 7, 8, 9, 5, 10, 11, 16, 17, 18, 19, 20, 21, 22] (by decide +kernel) (by decide +kernel)
set_option maxRecDepth 20000 in
theorem gX1_areSame_X1_from : GoodIn wsX1_areSame (wsV RX1 54 RX1 yX1_from wsX1_from) := goodIn_app (goodIn_of _ (by decide +kernel)) ggX1_areSame_X1_from
set_option maxRecDepth 20000 in
theorem ggX1_areSame_X1_to : GoodIn wsX1_areSame wsX1_to := goodIn_r _ [15, 7, 8, 9, 5, 10, 11, 16, 17, 18, 19, 20, 21, 22] (by decide +kernel) (by decide +kernel)
set_option maxRecDepth 20000 in
theorem gX1_areSame_X1_to : GoodIn wsX1_areSame (wsV RX1 51 RX1 yX1_to wsX1_to) := goodIn_app (goodIn_of _ (by decide +kernel)) ggX1_areSame_X1_to
theorem dX1_areSame_0 : decode cX1_areSame 0 = .ok (.aload_n 0, 1) := by decide +kernel
theorem dX1_areSame_1 : decode cX1_areSame 1 = .ok (.getfield 17, 3) := by decide +kernel
theorem dX1_areSame_4 : decode cX1_areSame 4 = .ok (.aload_n 0, 1) := by decide +kernel
theorem dX1_areSame_5 : decode cX1_areSame 5 = .ok (.iload_n 1, 1) := by decide +kernel
theorem dX1_areSame_6 : decode cX1_areSame 6 = .ok (.invokevirtual 54, 3) := by decide +kernel
theorem dX1_areSame_9 : decode cX1_areSame 9 = .ok (.iaload, 1) := by decide +kernel
theorem dX1_areSame_10 : decode cX1_areSame 10 = .ok (.aload_n 0, 1) := by decide +kernel
theorem dX1_areSame_11 : decode cX1_areSame 11 = .ok (.getfield 17, 3) := by decide +kernel
theorem dX1_areSame_14 : decode cX1_areSame 14 = .ok (.aload_n 0, 1) := by decide +kernel
theorem dX1_areSame_15 : decode cX1_areSame 15 = .ok (.iload_n 1, 1) := by decide +kernel
theorem dX1_areSame_16 : decode cX1_areSame 16 = .ok (.invokevirtual 51, 3) := by decide +kernel
theorem dX1_areSame_19 : decode cX1_areSame 19 = .ok (.iaload, 1) := by decide +kernel
theorem dX1_areSame_20 : decode cX1_areSame 20 = .ok (.if_icmp .ne 7, 3) := by decide +kernel
theorem dX1_areSame_23 : decode cX1_areSame 23 = .ok (.iconst 1, 1) := by decide +kernel
theorem dX1_areSame_24 : decode cX1_areSame 24 = .ok (.goto 4, 3) := by decide +kernel
theorem dX1_areSame_27 : decode cX1_areSame 27 = .ok (.iconst 0, 1) := by decide +kernel
theorem dX1_areSame_28 : decode cX1_areSame 28 = .ok (.ireturn, 1) := by decide +kernel
theorem dX1_isPoliteOr_0 : decode cX1_isPoliteOr 0 = .ok (.iload_n 0, 1) := by decide +kernel
theorem dX1_isPoliteOr_1 : decode cX1_isPoliteOr 1 = .ok (.iconst 2, 1) := by decide +kernel
theorem dX1_isPoliteOr_2 : decode cX1_isPoliteOr 2 = .ok (.if_icmp .le 12, 3) := by decide +kernel
theorem dX1_isPoliteOr_5 : decode cX1_isPoliteOr 5 = .ok (.iload_n 1, 1) := by decide +kernel
theorem dX1_isPoliteOr_6 : decode cX1_isPoliteOr 6 = .ok (.ifCond .eq 12, 3) := by decide +kernel
theorem dX1_isPoliteOr_9 : decode cX1_isPoliteOr 9 = .ok (.iload_n 0, 1) := by decide +kernel
theorem dX1_isPoliteOr_10 : decode cX1_isPoliteOr 10 = .ok (.iconst 4, 1) := by decide +kernel
theorem dX1_isPoliteOr_11 : decode cX1_isPoliteOr 11 = .ok (.if_icmp .gt 7, 3) := by decide +kernel
theorem dX1_isPoliteOr_14 : decode cX1_isPoliteOr 14 = .ok (.iconst 1, 1) := by decide +kernel
theorem dX1_isPoliteOr_15 : decode cX1_isPoliteOr 15 = .ok (.goto 4, 3) := by decide +kernel
theorem dX1_isPoliteOr_18 : decode cX1_isPoliteOr 18 = .ok (.iconst 0, 1) := by decide +kernel
theorem dX1_isPoliteOr_19 : decode cX1_isPoliteOr 19 = .ok (.ireturn, 1) := by decide +kernel
set_option maxRecDepth 20000 in
theorem ggX1_smooth_X1_from : GoodIn wsX1_smooth wsX1_from := goodIn_r _ [6, 7, 8, 9, 5, 10, 11, 34, 35, 36, 37, 38, 39, 40] (by decide +kernel) (by decide +kernel)
set_option maxRecDepth 20000 in
theorem gX1_smooth_X1_from : GoodIn wsX1_smooth (wsV RX1 54 RX1 yX1_from wsX1_from) := goodIn_app (goodIn_of _ (by decide +kernel)) ggX1_smooth_X1_from
set_option maxRecDepth 20000 in
theorem ggX1_smooth_X1_strain : GoodIn wsX1_smooth wsX1_strain := goodIn_r _ [15, 11, 2, 3, 4, 5, 6, 7, 8, 9, 10, 16, 17, 18, 19, 20, 21, 22, 23, 24, 25, 26, 27, 28, 29, 30, 31, 32, 33, 34, 35, 36, 37, 38, 39, 40] (by decide +kernel) (by decide +kernel)
set_option maxRecDepth 20000 in
theorem gX1_smooth_X1_strain : GoodIn wsX1_smooth (wsV RX1 63 RX1 yX1_strain wsX1_strain) := goodIn_app (goodIn_of _ (by decide +kernel)) ggX1_smooth_X1_strain
theorem dX1_smooth_0 : decode cX1_smooth 0 = .ok (.aload_n 0, 1) := by decide +kernel
theorem dX1_smooth_1 : decode cX1_smooth 1 = .ok (.getfield 20, 3) := by decide +kernel
theorem dX1_smooth_4 : decode cX1_smooth 4 = .ok (.aload_n 0, 1) := by decide +kernel
theorem dX1_smooth_5 : decode cX1_smooth 5 = .ok (.iload_n 1, 1) := by decide +kernel
theorem dX1_smooth_6 : decode cX1_smooth 6 = .ok (.invokevirtual 54, 3) := by decide +kernel
theorem dX1_smooth_9 : decode cX1_smooth 9 = .ok (.baload, 1) := by decide +kernel
theorem dX1_smooth_10 : decode cX1_smooth 10 = .ok (.ifCond .ne 12, 3) := by decide +kernel
theorem dX1_smooth_13 : decode cX1_smooth 13 = .ok (.aload_n 0, 1) := by decide +kernel
theorem dX1_smooth_14 : decode cX1_smooth 14 = .ok (.iload_n 1, 1) := by decide +kernel
theorem dX1_smooth_15 : decode cX1_smooth 15 = .ok (.invokevirtual 63, 3) := by decide +kernel
theorem dX1_smooth_18 : decode cX1_smooth 18 = .ok (.iconst 1, 1) := by decide +kernel
theorem dX1_smooth_19 : decode cX1_smooth 19 = .ok (.if_icmp .gt 7, 3) := by decide +kernel
theorem dX1_smooth_22 : decode cX1_smooth 22 = .ok (.iconst 1, 1) := by decide +kernel
theorem dX1_smooth_23 : decode cX1_smooth 23 = .ok (.goto 4, 3) := by decide +kernel
theorem dX1_smooth_26 : decode cX1_smooth 26 = .ok (.iconst 0, 1) := by decide +kernel
theorem dX1_smooth_27 : decode cX1_smooth 27 = .ok (.ireturn, 1) := by decide +kernel
set_option maxRecDepth 20000 in
theorem ggX1_broken_X1_from : GoodIn wsX1_broken wsX1_from := goodIn_r _ [6, 7, 8, 9, 5, 10, 11, 42, 43, 44, 45, 46, 47, 48] (by decide +kernel) (by decide +kernel)
set_option maxRecDepth 20000 in
theorem gX1_broken_X1_from : GoodIn wsX1_broken (wsV RX1 54 RX1 yX1_from wsX1_from) := goodIn_app (goodIn_of _ (by decide +kernel)) ggX1_broken_X1_from
set_option maxRecDepth 20000 in
theorem ggX1_broken_X1_strain : GoodIn wsX1_broken wsX1_strain := goodIn_r _ [15, 11, 2, 3, 4, 5, 6, 7, 8, 9, 10, 16, 17, 18, 19, 20, 21, 22, 23, 24, 25, 26, 27, 28, 29, 30, 31, 32, 33, 42, 43, 44, 45, 46, 47, 48] (by decide +kernel) (by decide +kernel)
set_option maxRecDepth 20000 in
theorem gX1_broken_X1_strain : GoodIn wsX1_broken (wsV RX1 63 RX1 yX1_strain wsX1_strain) := goodIn_app (goodIn_of _ (by decide +kernel)) ggX1_broken_X1_strain
set_option maxRecDepth 20000 in
theorem ggX1_broken_X1_areSame : GoodIn wsX1_broken wsX1_areSame := goodIn_r _ [37, 38, 2, 3, 4, 5, 6, 7, 8, 9, 10, 11, 16, 17, 18, 19, 42, 43, 44, 45, 46, 47, 48] (by decide +kernel) (by decide +kernel)
set_option maxRecDepth 20000 in
theorem gX1_broken_X1_areSame : GoodIn wsX1_broken (wsV RX1 66 RX1 yX1_areSame wsX1_areSame) := goodIn_app (goodIn_of _ (by decide +kernel)) ggX1_broken_X1_areSame
set_option maxRecDepth 20000 in
theorem ggX1_broken_X1_isPoliteOr : GoodIn wsX1_broken wsX1_isPoliteOr := goodIn_r _ [41] (by decide +kernel) (by decide +kernel)
set_option maxRecDepth 20000 in
theorem gX1_broken_X1_isPoliteOr : GoodIn wsX1_broken (va_wsS RX1 70 yX1_isPoliteOr wsX1_isPoliteOr) := goodIn_app (goodIn_of _ (by decide +kernel)) ggX1_broken_X1_isPoliteOr
theorem dX1_broken_0 : decode cX1_broken 0 = .ok (.aload_n 0, 1) := by decide +kernel
theorem dX1_broken_1 : decode cX1_broken 1 = .ok (.getfield 20, 3) := by decide +kernel
theorem dX1_broken_4 : decode cX1_broken 4 = .ok (.aload_n 0, 1) := by decide +kernel
theorem dX1_broken_5 : decode cX1_broken 5 = .ok (.iload_n 1, 1) := by decide +kernel
theorem dX1_broken_6 : decode cX1_broken 6 = .ok (.invokevirtual 54, 3) := by decide +kernel
theorem dX1_broken_9 : decode cX1_broken 9 = .ok (.baload, 1) := by decide +kernel
theorem dX1_broken_10 : decode cX1_broken 10 = .ok (.ifCond .ne 23, 3) := by decide +kernel
theorem dX1_broken_13 : decode cX1_broken 13 = .ok (.aload_n 0, 1) := by decide +kernel
theorem dX1_broken_14 : decode cX1_broken 14 = .ok (.iload_n 1, 1) := by decide +kernel
theorem dX1_broken_15 : decode cX1_broken 15 = .ok (.invokevirtual 63, 3) := by decide +kernel
theorem dX1_broken_18 : decode cX1_broken 18 = .ok (.aload_n 0, 1) := by decide +kernel
theorem dX1_broken_19 : decode cX1_broken 19 = .ok (.iload_n 1, 1) := by decide +kernel
theorem dX1_broken_20 : decode cX1_broken 20 = .ok (.invokevirtual 66, 3) := by decide +kernel
theorem dX1_broken_23 : decode cX1_broken 23 = .ok (.invokestatic 70, 3) := by decide +kernel
theorem dX1_broken_26 : decode cX1_broken 26 = .ok (.ifCond .ne 7, 3) := by decide +kernel
theorem dX1_broken_29 : decode cX1_broken 29 = .ok (.iconst 1, 1) := by decide +kernel
theorem dX1_broken_30 : decode cX1_broken 30 = .ok (.goto 4, 3) := by decide +kernel
theorem dX1_broken_33 : decode cX1_broken 33 = .ok (.iconst 0, 1) := by decide +kernel
theorem dX1_broken_34 : decode cX1_broken 34 = .ok (.ireturn, 1) := by decide +kernel
set_option maxRecDepth 20000 in
theorem ggX1_allBroken_X1_many : GoodIn wsX1_allBroken wsX1_many := goodIn_r _ [5, 6, 7, 51, 52, 53, 54, 55, 56, 57] (by decide +kernel) (by decide +kernel)
set_option maxRecDepth 20000 in
theorem gX1_allBroken_X1_many : GoodIn wsX1_allBroken (wsV RX1 34 RX1 yX1_many wsX1_many) := goodIn_app (goodIn_of _ (by decide +kernel)) ggX1_allBroken_X1_many
set_option maxRecDepth 20000 in
theorem ggX1_allBroken_X1_broken : GoodIn wsX1_allBroken wsX1_broken := goodIn_r _ [11, 12, 13, 14, 15, 4, 16, 17, 18, 19, 20, 7, 21, 22, 23, 24, 25, 26, 27, 28, 29, 30, 31, 32, 33, 34, 35, 36, 37, 38, 39, 40, 41, 42, 43, 44, 45, 46, 47, 48, 49, 50, 51, 52, 53, 54, 55, 56, 57] (by decide +kernel) (by decide +kernel)
set_option maxRecDepth 20000 in
theorem gX1_allBroken_X1_broken : GoodIn wsX1_allBroken (wsV RX1 74 RX1 yX1_broken wsX1_broken) := goodIn_app (goodIn_of _ (by decide +kernel)) ggX1_allBroken_X1_broken
theorem dX1_allBroken_0 : decode cX1_allBroken 0 = .ok (.iconst 0, 1) := by decide +kernel
theorem dX1_allBroken_1 : decode cX1_allBroken 1 = .ok (.istore_n 1, 1) := by decide +kernel
theorem dX1_allBroken_2 : decode cX1_allBroken 2 = .ok (.iconst 0, 1) := by decide +kernel
theorem dX1_allBroken_3 : decode cX1_allBroken 3 = .ok (.istore_n 2, 1) := by decide +kernel
theorem dX1_allBroken_4 : decode cX1_allBroken 4 = .ok (.iload_n 2, 1) := by decide +kernel
theorem dX1_allBroken_5 : decode cX1_allBroken 5 = .ok (.aload_n 0, 1) := by decide +kernel
theorem dX1_allBroken_6 : decode cX1_allBroken 6 = .ok (.invokevirtual 34, 3) := by decide +kernel
theorem dX1_allBroken_9 : decode cX1_allBroken 9 = .ok (.iconst 1, 1) := by decide +kernel
theorem dX1_allBroken_10 : decode cX1_allBroken 10 = .ok (.isub, 1) := by decide +kernel
theorem dX1_allBroken_11 : decode cX1_allBroken 11 = .ok (.if_icmp .ge 25, 3) := by decide +kernel
theorem dX1_allBroken_14 : decode cX1_allBroken 14 = .ok (.iload_n 1, 1) := by decide +kernel
theorem dX1_allBroken_15 : decode cX1_allBroken 15 = .ok (.aload_n 0, 1) := by decide +kernel
theorem dX1_allBroken_16 : decode cX1_allBroken 16 = .ok (.iload_n 2, 1) := by decide +kernel
theorem dX1_allBroken_17 : decode cX1_allBroken 17 = .ok (.invokevirtual 74, 3) := by decide +kernel
theorem dX1_allBroken_20 : decode cX1_allBroken 20 = .ok (.ifCond .eq 7, 3) := by decide +kernel
theorem dX1_allBroken_23 : decode cX1_allBroken 23 = .ok (.iconst 1, 1) := by decide +kernel
theorem dX1_allBroken_24 : decode cX1_allBroken 24 = .ok (.goto 4, 3) := by decide +kernel
theorem dX1_allBroken_27 : decode cX1_allBroken 27 = .ok (.iconst 0, 1) := by decide +kernel
theorem dX1_allBroken_28 : decode cX1_allBroken 28 = .ok (.iadd, 1) := by decide +kernel
theorem dX1_allBroken_29 : decode cX1_allBroken 29 = .ok (.istore_n 1, 1) := by decide +kernel
theorem dX1_allBroken_30 : decode cX1_allBroken 30 = .ok (.iinc 2 1, 3) := by decide +kernel
theorem dX1_allBroken_33 : decode cX1_allBroken 33 = .ok (.goto (-29), 3) := by decide +kernel
theorem dX1_allBroken_36 : decode cX1_allBroken 36 = .ok (.iload_n 1, 1) := by decide +kernel
theorem dX1_allBroken_37 : decode cX1_allBroken 37 = .ok (.ireturn, 1) := by decide +kernel
set_option maxRecDepth 20000 in
theorem ggX1_allPolite_X1_many : GoodIn wsX1_allPolite wsX1_many := goodIn_r _ [5, 6, 7, 55, 56, 57, 58, 59, 60, 61] (by decide +kernel) (by decide +kernel)
set_option maxRecDepth 20000 in
theorem gX1_allPolite_X1_many : GoodIn wsX1_allPolite (wsV RX1 34 RX1 yX1_many wsX1_many) := goodIn_app (goodIn_of _ (by decide +kernel)) ggX1_allPolite_X1_many
set_option maxRecDepth 20000 in
theorem ggX1_allPolite_X1_broken : GoodIn wsX1_allPolite wsX1_broken := goodIn_r _ [11, 12, 13, 14, 15, 4, 16, 17, 18, 19, 20, 7, 21, 22, 23, 24, 25, 26, 27, 28, 29, 30, 31, 32, 33, 34, 35, 36, 37, 38, 39, 40, 41, 42, 43, 44, 45, 46, 47, 48, 49, 50, 55, 56, 57, 58, 59, 60, 61] (by decide +kernel) (by decide +kernel)
set_option maxRecDepth 20000 in
theorem gX1_allPolite_X1_broken : GoodIn wsX1_allPolite (wsV RX1 74 RX1 yX1_broken wsX1_broken) := goodIn_app (goodIn_of _ (by decide +kernel)) ggX1_allPolite_X1_broken
set_option maxRecDepth 20000 in
theorem ggX1_allPolite_X1_smooth : GoodIn wsX1_allPolite wsX1_smooth := goodIn_r _ [54, 12, 13, 14, 15, 4, 16, 17, 18, 19, 20, 7, 21, 22, 23, 24, 25, 26, 27, 28, 29, 30, 31, 32, 33, 34, 35, 36, 37, 38, 39, 40, 41, 42, 55, 56, 57, 58, 59, 60, 61] (by decide +kernel) (by decide +kernel)
set_option maxRecDepth 20000 in
theorem gX1_allPolite_X1_smooth : GoodIn wsX1_allPolite (wsV RX1 77 RX1 yX1_smooth wsX1_smooth) := goodIn_app (goodIn_of _ (by decide +kernel)) ggX1_allPolite_X1_smooth
theorem dX1_allPolite_0 : decode cX1_allPolite 0 = .ok (.iconst 0, 1) := by decide +kernel
theorem dX1_allPolite_1 : decode cX1_allPolite 1 = .ok (.istore_n 1, 1) := by decide +kernel
theorem dX1_allPolite_2 : decode cX1_allPolite 2 = .ok (.iconst 0, 1) := by decide +kernel
theorem dX1_allPolite_3 : decode cX1_allPolite 3 = .ok (.istore_n 2, 1) := by decide +kernel
theorem dX1_allPolite_4 : decode cX1_allPolite 4 = .ok (.iload_n 2, 1) := by decide +kernel
theorem dX1_allPolite_5 : decode cX1_allPolite 5 = .ok (.aload_n 0, 1) := by decide +kernel
theorem dX1_allPolite_6 : decode cX1_allPolite 6 = .ok (.invokevirtual 34, 3) := by decide +kernel
theorem dX1_allPolite_9 : decode cX1_allPolite 9 = .ok (.iconst 1, 1) := by decide +kernel
theorem dX1_allPolite_10 : decode cX1_allPolite 10 = .ok (.isub, 1) := by decide +kernel
theorem dX1_allPolite_11 : decode cX1_allPolite 11 = .ok (.if_icmp .ge 33, 3) := by decide +kernel
theorem dX1_allPolite_14 : decode cX1_allPolite 14 = .ok (.iload_n 1, 1) := by decide +kernel
theorem dX1_allPolite_15 : decode cX1_allPolite 15 = .ok (.aload_n 0, 1) := by decide +kernel
theorem dX1_allPolite_16 : decode cX1_allPolite 16 = .ok (.iload_n 2, 1) := by decide +kernel
theorem dX1_allPolite_17 : decode cX1_allPolite 17 = .ok (.invokevirtual 74, 3) := by decide +kernel
theorem dX1_allPolite_20 : decode cX1_allPolite 20 = .ok (.ifCond .ne 11, 3) := by decide +kernel
theorem dX1_allPolite_23 : decode cX1_allPolite 23 = .ok (.aload_n 0, 1) := by decide +kernel
theorem dX1_allPolite_24 : decode cX1_allPolite 24 = .ok (.iload_n 2, 1) := by decide +kernel
theorem dX1_allPolite_25 : decode cX1_allPolite 25 = .ok (.invokevirtual 77, 3) := by decide +kernel
theorem dX1_allPolite_28 : decode cX1_allPolite 28 = .ok (.ifCond .eq 7, 3) := by decide +kernel
theorem dX1_allPolite_31 : decode cX1_allPolite 31 = .ok (.iconst 0, 1) := by decide +kernel
theorem dX1_allPolite_32 : decode cX1_allPolite 32 = .ok (.goto 4, 3) := by decide +kernel
theorem dX1_allPolite_35 : decode cX1_allPolite 35 = .ok (.iconst 1, 1) := by decide +kernel
theorem dX1_allPolite_36 : decode cX1_allPolite 36 = .ok (.iadd, 1) := by decide +kernel
theorem dX1_allPolite_37 : decode cX1_allPolite 37 = .ok (.istore_n 1, 1) := by decide +kernel
theorem dX1_allPolite_38 : decode cX1_allPolite 38 = .ok (.iinc 2 1, 3) := by decide +kernel
theorem dX1_allPolite_41 : decode cX1_allPolite 41 = .ok (.goto (-37), 3) := by decide +kernel
theorem dX1_allPolite_44 : decode cX1_allPolite 44 = .ok (.iload_n 1, 1) := by decide +kernel
theorem dX1_allPolite_45 : decode cX1_allPolite 45 = .ok (.ireturn, 1) := by decide +kernel
theorem dX1_pay_0 : decode cX1_pay 0 = .ok (.aload_n 0, 1) := by decide +kernel
theorem dX1_pay_1 : decode cX1_pay 1 = .ok (.dup, 1) := by decide +kernel
theorem dX1_pay_2 : decode cX1_pay 2 = .ok (.getfield 7, 3) := by decide +kernel
theorem dX1_pay_5 : decode cX1_pay 5 = .ok (.iload_n 1, 1) := by decide +kernel
theorem dX1_pay_6 : decode cX1_pay 6 = .ok (.isub, 1) := by decide +kernel
theorem dX1_pay_7 : decode cX1_pay 7 = .ok (.putfield 7, 3) := by decide +kernel
theorem dX1_pay_10 : decode cX1_pay 10 = .ok (.aload_n 0, 1) := by decide +kernel
theorem dX1_pay_11 : decode cX1_pay 11 = .ok (.dup, 1) := by decide +kernel
theorem dX1_pay_12 : decode cX1_pay 12 = .ok (.getfield 80, 3) := by decide +kernel
theorem dX1_pay_15 : decode cX1_pay 15 = .ok (.iload_n 1, 1) := by decide +kernel
theorem dX1_pay_16 : decode cX1_pay 16 = .ok (.iadd, 1) := by decide +kernel
theorem dX1_pay_17 : decode cX1_pay 17 = .ok (.putfield 80, 3) := by decide +kernel
theorem dX1_pay_20 : decode cX1_pay 20 = .ok (.iconst 1, 1) := by decide +kernel
theorem dX1_pay_21 : decode cX1_pay 21 = .ok (.ireturn, 1) := by decide +kernel
theorem dX1_put_0 : decode cX1_put 0 = .ok (.aload_n 0, 1) := by decide +kernel
theorem dX1_put_1 : decode cX1_put 1 = .ok (.getfield 13, 3) := by decide +kernel
theorem dX1_put_4 : decode cX1_put 4 = .ok (.aload_n 0, 1) := by decide +kernel
theorem dX1_put_5 : decode cX1_put 5 = .ok (.getfield 31, 3) := by decide +kernel
theorem dX1_put_8 : decode cX1_put 8 = .ok (.iload_n 1, 1) := by decide +kernel
theorem dX1_put_9 : decode cX1_put 9 = .ok (.iastore, 1) := by decide +kernel
theorem dX1_put_10 : decode cX1_put 10 = .ok (.aload_n 0, 1) := by decide +kernel
theorem dX1_put_11 : decode cX1_put 11 = .ok (.getfield 17, 3) := by decide +kernel
theorem dX1_put_14 : decode cX1_put 14 = .ok (.aload_n 0, 1) := by decide +kernel
theorem dX1_put_15 : decode cX1_put 15 = .ok (.getfield 31, 3) := by decide +kernel
theorem dX1_put_18 : decode cX1_put 18 = .ok (.iload_n 2, 1) := by decide +kernel
theorem dX1_put_19 : decode cX1_put 19 = .ok (.iastore, 1) := by decide +kernel
theorem dX1_put_20 : decode cX1_put 20 = .ok (.aload_n 0, 1) := by decide +kernel
theorem dX1_put_21 : decode cX1_put 21 = .ok (.getfield 20, 3) := by decide +kernel
theorem dX1_put_24 : decode cX1_put 24 = .ok (.aload_n 0, 1) := by decide +kernel
theorem dX1_put_25 : decode cX1_put 25 = .ok (.getfield 31, 3) := by decide +kernel
theorem dX1_put_28 : decode cX1_put 28 = .ok (.iconst 0, 1) := by decide +kernel
theorem dX1_put_29 : decode cX1_put 29 = .ok (.bastore, 1) := by decide +kernel
theorem dX1_put_30 : decode cX1_put 30 = .ok (.aload_n 0, 1) := by decide +kernel
theorem dX1_put_31 : decode cX1_put 31 = .ok (.dup, 1) := by decide +kernel
theorem dX1_put_32 : decode cX1_put 32 = .ok (.getfield 31, 3) := by decide +kernel
theorem dX1_put_35 : decode cX1_put 35 = .ok (.iconst 1, 1) := by decide +kernel
theorem dX1_put_36 : decode cX1_put 36 = .ok (.iadd, 1) := by decide +kernel
theorem dX1_put_37 : decode cX1_put 37 = .ok (.putfield 31, 3) := by decide +kernel
theorem dX1_put_40 : decode cX1_put 40 = .ok (.aload_n 0, 1) := by decide +kernel
theorem dX1_put_41 : decode cX1_put 41 = .ok (.getfield 31, 3) := by decide +kernel
theorem dX1_put_44 : decode cX1_put 44 = .ok (.iconst 1, 1) := by decide +kernel
theorem dX1_put_45 : decode cX1_put 45 = .ok (.isub, 1) := by decide +kernel
theorem dX1_put_46 : decode cX1_put 46 = .ok (.ireturn, 1) := by decide +kernel
set_option maxRecDepth 20000 in
theorem ggX1_say_X1_isSpeaker : GoodIn wsX1_say wsX1_isSpeaker := goodIn_r _ [6, 7, 8, 5, 9] (by decide +kernel) (by decide +kernel)
set_option maxRecDepth 20000 in
theorem gX1_say_X1_isSpeaker : GoodIn wsX1_say (va_wsS RX1 83 yX1_isSpeaker wsX1_isSpeaker) := goodIn_app (goodIn_of _ (by decide +kernel)) ggX1_say_X1_isSpeaker
set_option maxRecDepth 20000 in
theorem ggX1_say_X1_fail : GoodIn wsX1_say wsX1_fail := goodIn_r _ [13, 1, 21, 22, 23, 24, 25, 26, 27] (by decide +kernel) (by decide +kernel)
set_option maxRecDepth 20000 in
theorem gX1_say_X1_fail : GoodIn wsX1_say (wsV RX1 86 RX1 yX1_fail wsX1_fail) := goodIn_app (goodIn_of _ (by decide +kernel)) ggX1_say_X1_fail
set_option maxRecDepth 20000 in
theorem ggX1_say_X1_isIn : GoodIn wsX1_say wsX1_isIn := goodIn_r _ [9] (by decide +kernel) (by decide +kernel)
set_option maxRecDepth 20000 in
theorem gX1_say_X1_isIn : GoodIn wsX1_say (va_wsS RX1 27 yX1_isIn wsX1_isIn) := goodIn_app (goodIn_of _ (by decide +kernel)) ggX1_say_X1_isIn
set_option maxRecDepth 20000 in
theorem ggX1_say_X1_put : GoodIn wsX1_say wsX1_put := goodIn_r _ [17, 18, 2, 19, 20, 21, 22, 23, 24, 25, 26, 27] (by decide +kernel) (by decide +kernel)
set_option maxRecDepth 20000 in
theorem gX1_say_X1_put : GoodIn wsX1_say (wsV RX1 89 RX1 yX1_put wsX1_put) := goodIn_app (goodIn_of _ (by decide +kernel)) ggX1_say_X1_put
theorem dX1_say_0 : decode cX1_say 0 = .ok (.aload_n 0, 1) := by decide +kernel
theorem dX1_say_1 : decode cX1_say 1 = .ok (.iconst 0, 1) := by decide +kernel
theorem dX1_say_2 : decode cX1_say 2 = .ok (.putfield 24, 3) := by decide +kernel
theorem dX1_say_5 : decode cX1_say 5 = .ok (.iload_n 1, 1) := by decide +kernel
theorem dX1_say_6 : decode cX1_say 6 = .ok (.invokestatic 83, 3) := by decide +kernel
theorem dX1_say_9 : decode cX1_say 9 = .ok (.ifCond .ne 9, 3) := by decide +kernel
theorem dX1_say_12 : decode cX1_say 12 = .ok (.aload_n 0, 1) := by decide +kernel
theorem dX1_say_13 : decode cX1_say 13 = .ok (.iconst 1, 1) := by decide +kernel
theorem dX1_say_14 : decode cX1_say 14 = .ok (.invokevirtual 86, 3) := by decide +kernel
theorem dX1_say_17 : decode cX1_say 17 = .ok (.ireturn, 1) := by decide +kernel
theorem dX1_say_18 : decode cX1_say 18 = .ok (.iload_n 2, 1) := by decide +kernel
theorem dX1_say_19 : decode cX1_say 19 = .ok (.iconst 0, 1) := by decide +kernel
theorem dX1_say_20 : decode cX1_say 20 = .ok (.bipush 9, 2) := by decide +kernel
theorem dX1_say_22 : decode cX1_say 22 = .ok (.invokestatic 27, 3) := by decide +kernel
theorem dX1_say_25 : decode cX1_say 25 = .ok (.ifCond .ne 9, 3) := by decide +kernel
theorem dX1_say_28 : decode cX1_say 28 = .ok (.aload_n 0, 1) := by decide +kernel
theorem dX1_say_29 : decode cX1_say 29 = .ok (.iconst 2, 1) := by decide +kernel
theorem dX1_say_30 : decode cX1_say 30 = .ok (.invokevirtual 86, 3) := by decide +kernel
theorem dX1_say_33 : decode cX1_say 33 = .ok (.ireturn, 1) := by decide +kernel
theorem dX1_say_34 : decode cX1_say 34 = .ok (.aload_n 0, 1) := by decide +kernel
theorem dX1_say_35 : decode cX1_say 35 = .ok (.getfield 31, 3) := by decide +kernel
theorem dX1_say_38 : decode cX1_say 38 = .ok (.bipush 24, 2) := by decide +kernel
theorem dX1_say_40 : decode cX1_say 40 = .ok (.if_icmp .ne 11, 3) := by decide +kernel
theorem dX1_say_43 : decode cX1_say 43 = .ok (.aload_n 0, 1) := by decide +kernel
theorem dX1_say_44 : decode cX1_say 44 = .ok (.iconst 3, 1) := by decide +kernel
theorem dX1_say_45 : decode cX1_say 45 = .ok (.invokevirtual 86, 3) := by decide +kernel
