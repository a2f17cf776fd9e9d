theorem dX0_meanStrain_17 : decode cX0_meanStrain 17 = .ok (.if_icmp .ge 17, 3) := by decide +kernel
theorem dX0_meanStrain_20 : decode cX0_meanStrain 20 = .ok (.iload_n 2, 1) := by decide +kernel
theorem dX0_meanStrain_21 : decode cX0_meanStrain 21 = .ok (.aload_n 0, 1) := by decide +kernel
theorem dX0_meanStrain_22 : decode cX0_meanStrain 22 = .ok (.iload_n 3, 1) := by decide +kernel
theorem dX0_meanStrain_23 : decode cX0_meanStrain 23 = .ok (.invokevirtual 128, 3) := by decide +kernel
theorem dX0_meanStrain_26 : decode cX0_meanStrain 26 = .ok (.iadd, 1) := by decide +kernel
theorem dX0_meanStrain_27 : decode cX0_meanStrain 27 = .ok (.istore_n 2, 1) := by decide +kernel
theorem dX0_meanStrain_28 : decode cX0_meanStrain 28 = .ok (.iinc 3 1, 3) := by decide +kernel
theorem dX0_meanStrain_31 : decode cX0_meanStrain 31 = .ok (.goto (-16), 3) := by decide +kernel
theorem dX0_meanStrain_34 : decode cX0_meanStrain 34 = .ok (.iload_n 2, 1) := by decide +kernel
theorem dX0_meanStrain_35 : decode cX0_meanStrain 35 = .ok (.i2d, 1) := by decide +kernel
theorem dX0_meanStrain_36 : decode cX0_meanStrain 36 = .ok (.iload_n 1, 1) := by decide +kernel
theorem dX0_meanStrain_37 : decode cX0_meanStrain 37 = .ok (.i2d, 1) := by decide +kernel
theorem dX0_meanStrain_38 : decode cX0_meanStrain 38 = .ok (.ddiv, 1) := by decide +kernel
theorem dX0_meanStrain_39 : decode cX0_meanStrain 39 = .ok (.dreturn, 1) := by decide +kernel
theorem dX0_requireSpeaker_0 : decode cX0_requireSpeaker 0 = .ok (.iload_n 0, 1) := by decide +kernel
theorem dX0_requireSpeaker_1 : decode cX0_requireSpeaker 1 = .ok (.ifCond .lt 9, 3) := by decide +kernel
theorem dX0_requireSpeaker_4 : decode cX0_requireSpeaker 4 = .ok (.iload_n 0, 1) := by decide +kernel
theorem dX0_requireSpeaker_5 : decode cX0_requireSpeaker 5 = .ok (.bipush 6, 2) := by decide +kernel
theorem dX0_requireSpeaker_7 : decode cX0_requireSpeaker 7 = .ok (.if_icmp .lt 13, 3) := by decide +kernel
theorem dX0_requireSpeaker_10 : decode cX0_requireSpeaker 10 = .ok (.new 196, 3) := by decide +kernel
theorem dX0_requireSpeaker_13 : decode cX0_requireSpeaker 13 = .ok (.dup, 1) := by decide +kernel
theorem dX0_requireSpeaker_14 : decode cX0_requireSpeaker 14 = .ok (.ldc 198, 2) := by decide +kernel
theorem dX0_requireSpeaker_16 : decode cX0_requireSpeaker 16 = .ok (.invokespecial 200, 3) := by decide +kernel
theorem dX0_requireSpeaker_19 : decode cX0_requireSpeaker 19 = .ok (.athrow, 1) := by decide +kernel
theorem dX0_requireSpeaker_20 : decode cX0_requireSpeaker 20 = .ok (.return_, 1) := by decide +kernel
theorem dX0_requireTopic_0 : decode cX0_requireTopic 0 = .ok (.iload_n 0, 1) := by decide +kernel
theorem dX0_requireTopic_1 : decode cX0_requireTopic 1 = .ok (.ifCond .lt 9, 3) := by decide +kernel
theorem dX0_requireTopic_4 : decode cX0_requireTopic 4 = .ok (.iload_n 0, 1) := by decide +kernel
theorem dX0_requireTopic_5 : decode cX0_requireTopic 5 = .ok (.bipush 10, 2) := by decide +kernel
theorem dX0_requireTopic_7 : decode cX0_requireTopic 7 = .ok (.if_icmp .lt 13, 3) := by decide +kernel
theorem dX0_requireTopic_10 : decode cX0_requireTopic 10 = .ok (.new 106, 3) := by decide +kernel
theorem dX0_requireTopic_13 : decode cX0_requireTopic 13 = .ok (.dup, 1) := by decide +kernel
theorem dX0_requireTopic_14 : decode cX0_requireTopic 14 = .ok (.ldc 201, 2) := by decide +kernel
theorem dX0_requireTopic_16 : decode cX0_requireTopic 16 = .ok (.invokespecial 110, 3) := by decide +kernel
theorem dX0_requireTopic_19 : decode cX0_requireTopic 19 = .ok (.athrow, 1) := by decide +kernel
theorem dX0_requireTopic_20 : decode cX0_requireTopic 20 = .ok (.return_, 1) := by decide +kernel
theorem dX0_requireRoom_0 : decode cX0_requireRoom 0 = .ok (.aload_n 0, 1) := by decide +kernel
theorem dX0_requireRoom_1 : decode cX0_requireRoom 1 = .ok (.getfield 69, 3) := by decide +kernel
theorem dX0_requireRoom_4 : decode cX0_requireRoom 4 = .ok (.bipush 24, 2) := by decide +kernel
theorem dX0_requireRoom_6 : decode cX0_requireRoom 6 = .ok (.if_icmp .lt 13, 3) := by decide +kernel
theorem dX0_requireRoom_9 : decode cX0_requireRoom 9 = .ok (.new 50, 3) := by decide +kernel
theorem dX0_requireRoom_12 : decode cX0_requireRoom 12 = .ok (.dup, 1) := by decide +kernel
theorem dX0_requireRoom_13 : decode cX0_requireRoom 13 = .ok (.ldc 203, 2) := by decide +kernel
theorem dX0_requireRoom_15 : decode cX0_requireRoom 15 = .ok (.invokespecial 54, 3) := by decide +kernel
theorem dX0_requireRoom_18 : decode cX0_requireRoom 18 = .ok (.athrow, 1) := by decide +kernel
theorem dX0_requireRoom_19 : decode cX0_requireRoom 19 = .ok (.return_, 1) := by decide +kernel
theorem dX0_requirePatience_0 : decode cX0_requirePatience 0 = .ok (.iload_n 1, 1) := by decide +kernel
theorem dX0_requirePatience_1 : decode cX0_requirePatience 1 = .ok (.aload_n 0, 1) := by decide +kernel
theorem dX0_requirePatience_2 : decode cX0_requirePatience 2 = .ok (.getfield 25, 3) := by decide +kernel
theorem dX0_requirePatience_5 : decode cX0_requirePatience 5 = .ok (.if_icmp .le 13, 3) := by decide +kernel
theorem dX0_requirePatience_8 : decode cX0_requirePatience 8 = .ok (.new 50, 3) := by decide +kernel
theorem dX0_requirePatience_11 : decode cX0_requirePatience 11 = .ok (.dup, 1) := by decide +kernel
theorem dX0_requirePatience_12 : decode cX0_requirePatience 12 = .ok (.ldc 205, 2) := by decide +kernel
theorem dX0_requirePatience_14 : decode cX0_requirePatience 14 = .ok (.invokespecial 54, 3) := by decide +kernel
theorem dX0_requirePatience_17 : decode cX0_requirePatience 17 = .ok (.athrow, 1) := by decide +kernel
theorem dX0_requirePatience_18 : decode cX0_requirePatience 18 = .ok (.return_, 1) := by decide +kernel
theorem dX0_requirePlace_0 : decode cX0_requirePlace 0 = .ok (.iload_n 1, 1) := by decide +kernel
theorem dX0_requirePlace_1 : decode cX0_requirePlace 1 = .ok (.ifCond .lt 11, 3) := by decide +kernel
theorem dX0_requirePlace_4 : decode cX0_requirePlace 4 = .ok (.iload_n 1, 1) := by decide +kernel
theorem dX0_requirePlace_5 : decode cX0_requirePlace 5 = .ok (.aload_n 0, 1) := by decide +kernel
theorem dX0_requirePlace_6 : decode cX0_requirePlace 6 = .ok (.getfield 69, 3) := by decide +kernel
theorem dX0_requirePlace_9 : decode cX0_requirePlace 9 = .ok (.if_icmp .lt 13, 3) := by decide +kernel
theorem dX0_requirePlace_12 : decode cX0_requirePlace 12 = .ok (.new 196, 3) := by decide +kernel
theorem dX0_requirePlace_15 : decode cX0_requirePlace 15 = .ok (.dup, 1) := by decide +kernel
theorem dX0_requirePlace_16 : decode cX0_requirePlace 16 = .ok (.ldc 207, 2) := by decide +kernel
theorem dX0_requirePlace_18 : decode cX0_requirePlace 18 = .ok (.invokespecial 200, 3) := by decide +kernel
theorem dX0_requirePlace_21 : decode cX0_requirePlace 21 = .ok (.athrow, 1) := by decide +kernel
theorem dX0_requirePlace_22 : decode cX0_requirePlace 22 = .ok (.return_, 1) := by decide +kernel
theorem dX0_requireWord_0 : decode cX0_requireWord 0 = .ok (.iload_n 1, 1) := by decide +kernel
theorem dX0_requireWord_1 : decode cX0_requireWord 1 = .ok (.ifCond .lt 11, 3) := by decide +kernel
theorem dX0_requireWord_4 : decode cX0_requireWord 4 = .ok (.iload_n 1, 1) := by decide +kernel
theorem dX0_requireWord_5 : decode cX0_requireWord 5 = .ok (.aload_n 0, 1) := by decide +kernel
theorem dX0_requireWord_6 : decode cX0_requireWord 6 = .ok (.getfield 116, 3) := by decide +kernel
theorem dX0_requireWord_9 : decode cX0_requireWord 9 = .ok (.if_icmp .lt 13, 3) := by decide +kernel
theorem dX0_requireWord_12 : decode cX0_requireWord 12 = .ok (.new 196, 3) := by decide +kernel
theorem dX0_requireWord_15 : decode cX0_requireWord 15 = .ok (.dup, 1) := by decide +kernel
theorem dX0_requireWord_16 : decode cX0_requireWord 16 = .ok (.ldc 209, 2) := by decide +kernel
theorem dX0_requireWord_18 : decode cX0_requireWord 18 = .ok (.invokespecial 200, 3) := by decide +kernel
theorem dX0_requireWord_21 : decode cX0_requireWord 21 = .ok (.athrow, 1) := by decide +kernel
theorem dX0_requireWord_22 : decode cX0_requireWord 22 = .ok (.return_, 1) := by decide +kernel
set_option maxRecDepth 20000 in
theorem ggX0_requireGap_X0_gapCount : GoodIn wsX0_requireGap wsX0_gapCount := goodIn_r _ [7, 8, 9, 10, 11, 12, 13, 14, 15, 16, 17, 18] (by decide +kernel) (by decide +kernel)
set_option maxRecDepth 20000 in
theorem gX0_requireGap_X0_gapCount : GoodIn wsX0_requireGap (wsV RX0 157 RX0 yX0_gapCount wsX0_gapCount) := goodIn_app (goodIn_of _ (by decide +kernel)) ggX0_requireGap_X0_gapCount
theorem dX0_requireGap_0 : decode cX0_requireGap 0 = .ok (.iload_n 1, 1) := by decide +kernel
theorem dX0_requireGap_1 : decode cX0_requireGap 1 = .ok (.ifCond .lt 11, 3) := by decide +kernel
theorem dX0_requireGap_4 : decode cX0_requireGap 4 = .ok (.iload_n 1, 1) := by decide +kernel
theorem dX0_requireGap_5 : decode cX0_requireGap 5 = .ok (.aload_n 0, 1) := by decide +kernel
theorem dX0_requireGap_6 : decode cX0_requireGap 6 = .ok (.invokevirtual 157, 3) := by decide +kernel
theorem dX0_requireGap_9 : decode cX0_requireGap 9 = .ok (.if_icmp .lt 13, 3) := by decide +kernel
theorem dX0_requireGap_12 : decode cX0_requireGap 12 = .ok (.new 196, 3) := by decide +kernel
theorem dX0_requireGap_15 : decode cX0_requireGap 15 = .ok (.dup, 1) := by decide +kernel
theorem dX0_requireGap_16 : decode cX0_requireGap 16 = .ok (.ldc 211, 2) := by decide +kernel
theorem dX0_requireGap_18 : decode cX0_requireGap 18 = .ok (.invokespecial 200, 3) := by decide +kernel
theorem dX0_requireGap_21 : decode cX0_requireGap 21 = .ok (.athrow, 1) := by decide +kernel
theorem dX0_requireGap_22 : decode cX0_requireGap 22 = .ok (.return_, 1) := by decide +kernel
set_option maxRecDepth 20000 in
theorem ggX0_requireUntied_X0_gapTied : GoodIn wsX0_requireUntied wsX0_gapTied := goodIn_r _ [7, 8, 9, 10, 11, 6, 12, 13, 14, 15, 16, 17, 18, 19, 20, 21, 22] (by decide +kernel) (by decide +kernel)
set_option maxRecDepth 20000 in
theorem gX0_requireUntied_X0_gapTied : GoodIn wsX0_requireUntied (wsV RX0 131 RX0 yX0_gapTied wsX0_gapTied) := goodIn_app (goodIn_of _ (by decide +kernel)) ggX0_requireUntied_X0_gapTied
theorem dX0_requireUntied_0 : decode cX0_requireUntied 0 = .ok (.aload_n 0, 1) := by decide +kernel
theorem dX0_requireUntied_1 : decode cX0_requireUntied 1 = .ok (.iload_n 1, 1) := by decide +kernel
theorem dX0_requireUntied_2 : decode cX0_requireUntied 2 = .ok (.invokevirtual 131, 3) := by decide +kernel
theorem dX0_requireUntied_5 : decode cX0_requireUntied 5 = .ok (.ifCond .eq 13, 3) := by decide +kernel
theorem dX0_requireUntied_8 : decode cX0_requireUntied 8 = .ok (.new 50, 3) := by decide +kernel
theorem dX0_requireUntied_11 : decode cX0_requireUntied 11 = .ok (.dup, 1) := by decide +kernel
theorem dX0_requireUntied_12 : decode cX0_requireUntied 12 = .ok (.ldc 213, 2) := by decide +kernel
theorem dX0_requireUntied_14 : decode cX0_requireUntied 14 = .ok (.invokespecial 54, 3) := by decide +kernel
theorem dX0_requireUntied_17 : decode cX0_requireUntied 17 = .ok (.athrow, 1) := by decide +kernel
theorem dX0_requireUntied_18 : decode cX0_requireUntied 18 = .ok (.return_, 1) := by decide +kernel
theorem dX0_requireThread_0 : decode cX0_requireThread 0 = .ok (.iload_n 1, 1) := by decide +kernel
theorem dX0_requireThread_1 : decode cX0_requireThread 1 = .ok (.ifCond .lt 11, 3) := by decide +kernel
theorem dX0_requireThread_4 : decode cX0_requireThread 4 = .ok (.iload_n 1, 1) := by decide +kernel
theorem dX0_requireThread_5 : decode cX0_requireThread 5 = .ok (.aload_n 0, 1) := by decide +kernel
theorem dX0_requireThread_6 : decode cX0_requireThread 6 = .ok (.getfield 86, 3) := by decide +kernel
theorem dX0_requireThread_9 : decode cX0_requireThread 9 = .ok (.if_icmp .lt 13, 3) := by decide +kernel
theorem dX0_requireThread_12 : decode cX0_requireThread 12 = .ok (.new 196, 3) := by decide +kernel
theorem dX0_requireThread_15 : decode cX0_requireThread 15 = .ok (.dup, 1) := by decide +kernel
theorem dX0_requireThread_16 : decode cX0_requireThread 16 = .ok (.ldc 215, 2) := by decide +kernel
theorem dX0_requireThread_18 : decode cX0_requireThread 18 = .ok (.invokespecial 200, 3) := by decide +kernel
theorem dX0_requireThread_21 : decode cX0_requireThread 21 = .ok (.athrow, 1) := by decide +kernel
theorem dX0_requireThread_22 : decode cX0_requireThread 22 = .ok (.return_, 1) := by decide +kernel
set_option maxRecDepth 20000 in
theorem ggX0_append_X0_put : GoodIn wsX0_append wsX0_put := goodIn_r _ [6, 7, 8, 9, 10, 11, 5, 12, 72, 73, 74, 75, 76, 77, 78, 79, 80, 81] (by decide +kernel) (by decide +kernel)
set_option maxRecDepth 20000 in
theorem gX0_append_X0_put : GoodIn wsX0_append (wsV RX0 102 RX0 yX0_put wsX0_put) := goodIn_app (goodIn_of _ (by decide +kernel)) ggX0_append_X0_put
set_option maxRecDepth 20000 in
theorem ggX0_append_X0_recount : GoodIn wsX0_append wsX0_recount := goodIn_r _ [16, 17, 1, 18, 19, 20, 21, 22, 23, 5, 24, 8, 25, 26, 27, 10, 11, 12, 28, 29, 30, 31, 32, 33, 34, 35, 9, 36, 37, 38, 39, 40, 41, 42, 43, 44, 45, 46, 47, 48, 49, 50, 51, 52, 53, 54, 55, 56, 57, 58, 59, 60, 61, 62, 63, 64, 65, 7, 66, 67, 68, 69, 70, 71, 72, 73, 74, 75, 76, 77, 78, 79, 80, 81] (by decide +kernel) (by decide +kernel)
set_option maxRecDepth 20000 in
theorem gX0_append_X0_recount : GoodIn wsX0_append (wsV RX0 66 RX0 yX0_recount wsX0_recount) := goodIn_app (goodIn_of _ (by decide +kernel)) ggX0_append_X0_recount
theorem dX0_append_0 : decode cX0_append 0 = .ok (.aload_n 0, 1) := by decide +kernel
theorem dX0_append_1 : decode cX0_append 1 = .ok (.getfield 69, 3) := by decide +kernel
theorem dX0_append_4 : decode cX0_append 4 = .ok (.istore_n 3, 1) := by decide +kernel
theorem dX0_append_5 : decode cX0_append 5 = .ok (.aload_n 0, 1) := by decide +kernel
theorem dX0_append_6 : decode cX0_append 6 = .ok (.dup, 1) := by decide +kernel
theorem dX0_append_7 : decode cX0_append 7 = .ok (.getfield 69, 3) := by decide +kernel
theorem dX0_append_10 : decode cX0_append 10 = .ok (.iconst 1, 1) := by decide +kernel
theorem dX0_append_11 : decode cX0_append 11 = .ok (.iadd, 1) := by decide +kernel
theorem dX0_append_12 : decode cX0_append 12 = .ok (.putfield 69, 3) := by decide +kernel
theorem dX0_append_15 : decode cX0_append 15 = .ok (.aload_n 0, 1) := by decide +kernel
theorem dX0_append_16 : decode cX0_append 16 = .ok (.iload_n 3, 1) := by decide +kernel
theorem dX0_append_17 : decode cX0_append 17 = .ok (.iload_n 1, 1) := by decide +kernel
theorem dX0_append_18 : decode cX0_append 18 = .ok (.iload_n 2, 1) := by decide +kernel
theorem dX0_append_19 : decode cX0_append 19 = .ok (.invokevirtual 102, 3) := by decide +kernel
theorem dX0_append_22 : decode cX0_append 22 = .ok (.aload_n 0, 1) := by decide +kernel
theorem dX0_append_23 : decode cX0_append 23 = .ok (.invokevirtual 66, 3) := by decide +kernel
theorem dX0_append_26 : decode cX0_append 26 = .ok (.iload_n 3, 1) := by decide +kernel
theorem dX0_append_27 : decode cX0_append 27 = .ok (.ireturn, 1) := by decide +kernel
set_option maxRecDepth 20000 in
theorem ggX0_put_X0_write : GoodIn wsX0_put wsX0_write := goodIn_r _ [7] (by decide +kernel) (by decide +kernel)
set_option maxRecDepth 20000 in
theorem gX0_put_X0_write : GoodIn wsX0_put (va_wsS RX0 82 yX0_write wsX0_write) := goodIn_app (goodIn_of _ (by decide +kernel)) ggX0_put_X0_write
theorem dX0_put_0 : decode cX0_put 0 = .ok (.aload_n 0, 1) := by decide +kernel
theorem dX0_put_1 : decode cX0_put 1 = .ok (.getfield 9, 3) := by decide +kernel
theorem dX0_put_4 : decode cX0_put 4 = .ok (.iload_n 1, 1) := by decide +kernel
theorem dX0_put_5 : decode cX0_put 5 = .ok (.iload_n 2, 1) := by decide +kernel
theorem dX0_put_6 : decode cX0_put 6 = .ok (.invokestatic 82, 3) := by decide +kernel
theorem dX0_put_9 : decode cX0_put 9 = .ok (.aload_n 0, 1) := by decide +kernel
theorem dX0_put_10 : decode cX0_put 10 = .ok (.getfield 13, 3) := by decide +kernel
theorem dX0_put_13 : decode cX0_put 13 = .ok (.iload_n 1, 1) := by decide +kernel
theorem dX0_put_14 : decode cX0_put 14 = .ok (.iload_n 3, 1) := by decide +kernel
theorem dX0_put_15 : decode cX0_put 15 = .ok (.invokestatic 82, 3) := by decide +kernel
theorem dX0_put_18 : decode cX0_put 18 = .ok (.aload_n 0, 1) := by decide +kernel
theorem dX0_put_19 : decode cX0_put 19 = .ok (.getfield 16, 3) := by decide +kernel
theorem dX0_put_22 : decode cX0_put 22 = .ok (.iload_n 1, 1) := by decide +kernel
theorem dX0_put_23 : decode cX0_put 23 = .ok (.iconst 0, 1) := by decide +kernel
theorem dX0_put_24 : decode cX0_put 24 = .ok (.invokestatic 82, 3) := by decide +kernel
theorem dX0_put_27 : decode cX0_put 27 = .ok (.return_, 1) := by decide +kernel
set_option maxRecDepth 20000 in
theorem ggX0_moveUpBehind_X0_copyRemark : GoodIn wsX0_moveUpBehind wsX0_copyRemark := goodIn_r _ [6, 7, 8, 9, 10, 11, 5, 12, 13, 14, 15, 16, 17, 18, 19, 20, 21, 22, 23, 24, 25] (by decide +kernel) (by decide +kernel)
set_option maxRecDepth 20000 in
theorem gX0_moveUpBehind_X0_copyRemark : GoodIn wsX0_moveUpBehind (wsV RX0 217 RX0 yX0_copyRemark wsX0_copyRemark) := goodIn_app (goodIn_of _ (by decide +kernel)) ggX0_moveUpBehind_X0_copyRemark
theorem dX0_moveUpBehind_0 : decode cX0_moveUpBehind 0 = .ok (.aload_n 0, 1) := by decide +kernel
theorem dX0_moveUpBehind_1 : decode cX0_moveUpBehind 1 = .ok (.dup, 1) := by decide +kernel
theorem dX0_moveUpBehind_2 : decode cX0_moveUpBehind 2 = .ok (.getfield 69, 3) := by decide +kernel
theorem dX0_moveUpBehind_5 : decode cX0_moveUpBehind 5 = .ok (.iconst 1, 1) := by decide +kernel
theorem dX0_moveUpBehind_6 : decode cX0_moveUpBehind 6 = .ok (.isub, 1) := by decide +kernel
theorem dX0_moveUpBehind_7 : decode cX0_moveUpBehind 7 = .ok (.putfield 69, 3) := by decide +kernel
theorem dX0_moveUpBehind_10 : decode cX0_moveUpBehind 10 = .ok (.iload_n 1, 1) := by decide +kernel
theorem dX0_moveUpBehind_11 : decode cX0_moveUpBehind 11 = .ok (.istore_n 2, 1) := by decide +kernel
theorem dX0_moveUpBehind_12 : decode cX0_moveUpBehind 12 = .ok (.iload_n 2, 1) := by decide +kernel
theorem dX0_moveUpBehind_13 : decode cX0_moveUpBehind 13 = .ok (.aload_n 0, 1) := by decide +kernel
theorem dX0_moveUpBehind_14 : decode cX0_moveUpBehind 14 = .ok (.getfield 69, 3) := by decide +kernel
theorem dX0_moveUpBehind_17 : decode cX0_moveUpBehind 17 = .ok (.if_icmp .ge 17, 3) := by decide +kernel
theorem dX0_moveUpBehind_20 : decode cX0_moveUpBehind 20 = .ok (.aload_n 0, 1) := by decide +kernel
theorem dX0_moveUpBehind_21 : decode cX0_moveUpBehind 21 = .ok (.iload_n 2, 1) := by decide +kernel
theorem dX0_moveUpBehind_22 : decode cX0_moveUpBehind 22 = .ok (.iconst 1, 1) := by decide +kernel
theorem dX0_moveUpBehind_23 : decode cX0_moveUpBehind 23 = .ok (.iadd, 1) := by decide +kernel
theorem dX0_moveUpBehind_24 : decode cX0_moveUpBehind 24 = .ok (.iload_n 2, 1) := by decide +kernel
theorem dX0_moveUpBehind_25 : decode cX0_moveUpBehind 25 = .ok (.invokevirtual 217, 3) := by decide +kernel
theorem dX0_moveUpBehind_28 : decode cX0_moveUpBehind 28 = .ok (.iinc 2 1, 3) := by decide +kernel
theorem dX0_moveUpBehind_31 : decode cX0_moveUpBehind 31 = .ok (.goto (-19), 3) := by decide +kernel
theorem dX0_moveUpBehind_34 : decode cX0_moveUpBehind 34 = .ok (.return_, 1) := by decide +kernel
set_option maxRecDepth 20000 in
theorem ggX0_makeRoomAt_X0_copyRemark : GoodIn wsX0_makeRoomAt wsX0_copyRemark := goodIn_r _ [6, 7, 8, 9, 10, 11, 5, 12, 13, 14, 15, 16, 17, 18, 19, 20, 21, 22, 23, 24, 25] (by decide +kernel) (by decide +kernel)
set_option maxRecDepth 20000 in
theorem gX0_makeRoomAt_X0_copyRemark : GoodIn wsX0_makeRoomAt (wsV RX0 217 RX0 yX0_copyRemark wsX0_copyRemark) := goodIn_app (goodIn_of _ (by decide +kernel)) ggX0_makeRoomAt_X0_copyRemark
theorem dX0_makeRoomAt_0 : decode cX0_makeRoomAt 0 = .ok (.aload_n 0, 1) := by decide +kernel
theorem dX0_makeRoomAt_1 : decode cX0_makeRoomAt 1 = .ok (.getfield 69, 3) := by decide +kernel
theorem dX0_makeRoomAt_4 : decode cX0_makeRoomAt 4 = .ok (.iconst 1, 1) := by decide +kernel
theorem dX0_makeRoomAt_5 : decode cX0_makeRoomAt 5 = .ok (.isub, 1) := by decide +kernel
theorem dX0_makeRoomAt_6 : decode cX0_makeRoomAt 6 = .ok (.istore_n 2, 1) := by decide +kernel
theorem dX0_makeRoomAt_7 : decode cX0_makeRoomAt 7 = .ok (.iload_n 2, 1) := by decide +kernel
theorem dX0_makeRoomAt_8 : decode cX0_makeRoomAt 8 = .ok (.iload_n 1, 1) := by decide +kernel
theorem dX0_makeRoomAt_9 : decode cX0_makeRoomAt 9 = .ok (.if_icmp .lt 17, 3) := by decide +kernel
theorem dX0_makeRoomAt_12 : decode cX0_makeRoomAt 12 = .ok (.aload_n 0, 1) := by decide +kernel
theorem dX0_makeRoomAt_13 : decode cX0_makeRoomAt 13 = .ok (.iload_n 2, 1) := by decide +kernel
theorem dX0_makeRoomAt_14 : decode cX0_makeRoomAt 14 = .ok (.iload_n 2, 1) := by decide +kernel
theorem dX0_makeRoomAt_15 : decode cX0_makeRoomAt 15 = .ok (.iconst 1, 1) := by decide +kernel
theorem dX0_makeRoomAt_16 : decode cX0_makeRoomAt 16 = .ok (.iadd, 1) := by decide +kernel
theorem dX0_makeRoomAt_17 : decode cX0_makeRoomAt 17 = .ok (.invokevirtual 217, 3) := by decide +kernel
theorem dX0_makeRoomAt_20 : decode cX0_makeRoomAt 20 = .ok (.iinc 2 (-1), 3) := by decide +kernel
theorem dX0_makeRoomAt_23 : decode cX0_makeRoomAt 23 = .ok (.goto (-16), 3) := by decide +kernel
theorem dX0_makeRoomAt_26 : decode cX0_makeRoomAt 26 = .ok (.aload_n 0, 1) := by decide +kernel
theorem dX0_makeRoomAt_27 : decode cX0_makeRoomAt 27 = .ok (.dup, 1) := by decide +kernel
theorem dX0_makeRoomAt_28 : decode cX0_makeRoomAt 28 = .ok (.getfield 69, 3) := by decide +kernel
theorem dX0_makeRoomAt_31 : decode cX0_makeRoomAt 31 = .ok (.iconst 1, 1) := by decide +kernel
theorem dX0_makeRoomAt_32 : decode cX0_makeRoomAt 32 = .ok (.iadd, 1) := by decide +kernel
theorem dX0_makeRoomAt_33 : decode cX0_makeRoomAt 33 = .ok (.putfield 69, 3) := by decide +kernel
theorem dX0_makeRoomAt_36 : decode cX0_makeRoomAt 36 = .ok (.return_, 1) := by decide +kernel
set_option maxRecDepth 20000 in
theorem ggX0_copyRemark_X0_read : GoodIn wsX0_copyRemark wsX0_read := goodIn_r _ [7] (by decide +kernel) (by decide +kernel)
set_option maxRecDepth 20000 in
theorem gX0_copyRemark_X0_read : GoodIn wsX0_copyRemark (va_wsS RX0 78 yX0_read wsX0_read) := goodIn_app (goodIn_of _ (by decide +kernel)) ggX0_copyRemark_X0_read
set_option maxRecDepth 20000 in
theorem ggX0_copyRemark_X0_write : GoodIn wsX0_copyRemark wsX0_write := goodIn_r _ [10] (by decide +kernel) (by decide +kernel)
set_option maxRecDepth 20000 in
theorem gX0_copyRemark_X0_write : GoodIn wsX0_copyRemark (va_wsS RX0 82 yX0_write wsX0_write) := goodIn_app (goodIn_of _ (by decide +kernel)) ggX0_copyRemark_X0_write
theorem dX0_copyRemark_0 : decode cX0_copyRemark 0 = .ok (.aload_n 0, 1) := by decide +kernel
theorem dX0_copyRemark_1 : decode cX0_copyRemark 1 = .ok (.getfield 9, 3) := by decide +kernel
theorem dX0_copyRemark_4 : decode cX0_copyRemark 4 = .ok (.iload_n 2, 1) := by decide +kernel
theorem dX0_copyRemark_5 : decode cX0_copyRemark 5 = .ok (.aload_n 0, 1) := by decide +kernel
theorem dX0_copyRemark_6 : decode cX0_copyRemark 6 = .ok (.getfield 9, 3) := by decide +kernel
theorem dX0_copyRemark_9 : decode cX0_copyRemark 9 = .ok (.iload_n 1, 1) := by decide +kernel
theorem dX0_copyRemark_10 : decode cX0_copyRemark 10 = .ok (.invokestatic 78, 3) := by decide +kernel
theorem dX0_copyRemark_13 : decode cX0_copyRemark 13 = .ok (.invokestatic 82, 3) := by decide +kernel
theorem dX0_copyRemark_16 : decode cX0_copyRemark 16 = .ok (.aload_n 0, 1) := by decide +kernel
theorem dX0_copyRemark_17 : decode cX0_copyRemark 17 = .ok (.getfield 13, 3) := by decide +kernel
theorem dX0_copyRemark_20 : decode cX0_copyRemark 20 = .ok (.iload_n 2, 1) := by decide +kernel
theorem dX0_copyRemark_21 : decode cX0_copyRemark 21 = .ok (.aload_n 0, 1) := by decide +kernel
theorem dX0_copyRemark_22 : decode cX0_copyRemark 22 = .ok (.getfield 13, 3) := by decide +kernel
theorem dX0_copyRemark_25 : decode cX0_copyRemark 25 = .ok (.iload_n 1, 1) := by decide +kernel
theorem dX0_copyRemark_26 : decode cX0_copyRemark 26 = .ok (.invokestatic 78, 3) := by decide +kernel
theorem dX0_copyRemark_29 : decode cX0_copyRemark 29 = .ok (.invokestatic 82, 3) := by decide +kernel
theorem dX0_copyRemark_32 : decode cX0_copyRemark 32 = .ok (.aload_n 0, 1) := by decide +kernel
theorem dX0_copyRemark_33 : decode cX0_copyRemark 33 = .ok (.getfield 16, 3) := by decide +kernel
theorem dX0_copyRemark_36 : decode cX0_copyRemark 36 = .ok (.iload_n 2, 1) := by decide +kernel
theorem dX0_copyRemark_37 : decode cX0_copyRemark 37 = .ok (.aload_n 0, 1) := by decide +kernel
theorem dX0_copyRemark_38 : decode cX0_copyRemark 38 = .ok (.getfield 16, 3) := by decide +kernel
theorem dX0_copyRemark_41 : decode cX0_copyRemark 41 = .ok (.iload_n 1, 1) := by decide +kernel
theorem dX0_copyRemark_42 : decode cX0_copyRemark 42 = .ok (.invokestatic 78, 3) := by decide +kernel
theorem dX0_copyRemark_45 : decode cX0_copyRemark 45 = .ok (.invokestatic 82, 3) := by decide +kernel
theorem dX0_copyRemark_48 : decode cX0_copyRemark 48 = .ok (.return_, 1) := by decide +kernel
theorem dX0_pay_0 : decode cX0_pay 0 = .ok (.aload_n 0, 1) := by decide +kernel
theorem dX0_pay_1 : decode cX0_pay 1 = .ok (.dup, 1) := by decide +kernel
theorem dX0_pay_2 : decode cX0_pay 2 = .ok (.getfield 25, 3) := by decide +kernel
theorem dX0_pay_5 : decode cX0_pay 5 = .ok (.iload_n 1, 1) := by decide +kernel
theorem dX0_pay_6 : decode cX0_pay 6 = .ok (.isub, 1) := by decide +kernel
theorem dX0_pay_7 : decode cX0_pay 7 = .ok (.putfield 25, 3) := by decide +kernel
theorem dX0_pay_10 : decode cX0_pay 10 = .ok (.aload_n 0, 1) := by decide +kernel
theorem dX0_pay_11 : decode cX0_pay 11 = .ok (.dup, 1) := by decide +kernel
theorem dX0_pay_12 : decode cX0_pay 12 = .ok (.getfield 119, 3) := by decide +kernel
theorem dX0_pay_15 : decode cX0_pay 15 = .ok (.iload_n 1, 1) := by decide +kernel
theorem dX0_pay_16 : decode cX0_pay 16 = .ok (.iadd, 1) := by decide +kernel
theorem dX0_pay_17 : decode cX0_pay 17 = .ok (.putfield 119, 3) := by decide +kernel
theorem dX0_pay_20 : decode cX0_pay 20 = .ok (.return_, 1) := by decide +kernel
set_option maxRecDepth 20000 in
theorem ggX0_recount_X0_coughStandsAt : GoodIn wsX0_recount wsX0_coughStandsAt := goodIn_r _ [10, 11, 12, 13, 9, 14, 64, 65, 66, 67, 68, 69, 70, 71, 72, 73] (by decide +kernel) (by decide +kernel)
set_option maxRecDepth 20000 in
theorem gX0_recount_X0_coughStandsAt : GoodIn wsX0_recount (wsV RX0 46 RX0 yX0_coughStandsAt wsX0_coughStandsAt) := goodIn_app (goodIn_of _ (by decide +kernel)) ggX0_recount_X0_coughStandsAt
set_option maxRecDepth 20000 in
theorem ggX0_recount_X0_write : GoodIn wsX0_recount wsX0_write := goodIn_r _ [17] (by decide +kernel) (by decide +kernel)
set_option maxRecDepth 20000 in
theorem gX0_recount_X0_write : GoodIn wsX0_recount (va_wsS RX0 82 yX0_write wsX0_write) := goodIn_app (goodIn_of _ (by decide +kernel)) ggX0_recount_X0_write
set_option maxRecDepth 20000 in
theorem ggX0_recount_X0_kindOfGap : GoodIn wsX0_recount wsX0_kindOfGap := goodIn_r _ [21, 22, 23, 24, 9, 25, 26, 3, 12, 13, 14, 27, 28, 29, 30, 31, 32, 33, 34, 11, 35, 36, 37, 38, 39, 40, 41, 42, 43, 44, 45, 46, 47, 48, 49, 50, 51, 52, 53, 54, 55, 56, 57, 58, 59, 60, 61, 62, 63, 64, 65, 66, 67, 68, 69, 70, 71, 72, 73] (by decide +kernel) (by decide +kernel)
set_option maxRecDepth 20000 in
theorem gX0_recount_X0_kindOfGap : GoodIn wsX0_recount (wsV RX0 134 RX0 yX0_kindOfGap wsX0_kindOfGap) := goodIn_app (goodIn_of _ (by decide +kernel)) ggX0_recount_X0_kindOfGap
theorem dX0_recount_0 : decode cX0_recount 0 = .ok (.aload_n 0, 1) := by decide +kernel
theorem dX0_recount_1 : decode cX0_recount 1 = .ok (.iconst 0, 1) := by decide +kernel
theorem dX0_recount_2 : decode cX0_recount 2 = .ok (.putfield 116, 3) := by decide +kernel
theorem dX0_recount_5 : decode cX0_recount 5 = .ok (.iconst 0, 1) := by decide +kernel
theorem dX0_recount_6 : decode cX0_recount 6 = .ok (.istore_n 1, 1) := by decide +kernel
theorem dX0_recount_7 : decode cX0_recount 7 = .ok (.iload_n 1, 1) := by decide +kernel
theorem dX0_recount_8 : decode cX0_recount 8 = .ok (.aload_n 0, 1) := by decide +kernel
theorem dX0_recount_9 : decode cX0_recount 9 = .ok (.getfield 69, 3) := by decide +kernel
theorem dX0_recount_12 : decode cX0_recount 12 = .ok (.if_icmp .ge 39, 3) := by decide +kernel
theorem dX0_recount_15 : decode cX0_recount 15 = .ok (.aload_n 0, 1) := by decide +kernel
theorem dX0_recount_16 : decode cX0_recount 16 = .ok (.iload_n 1, 1) := by decide +kernel
theorem dX0_recount_17 : decode cX0_recount 17 = .ok (.invokevirtual 46, 3) := by decide +kernel
theorem dX0_recount_20 : decode cX0_recount 20 = .ok (.ifCond .ne 25, 3) := by decide +kernel
theorem dX0_recount_23 : decode cX0_recount 23 = .ok (.aload_n 0, 1) := by decide +kernel
theorem dX0_recount_24 : decode cX0_recount 24 = .ok (.getfield 19, 3) := by decide +kernel
theorem dX0_recount_27 : decode cX0_recount 27 = .ok (.aload_n 0, 1) := by decide +kernel
theorem dX0_recount_28 : decode cX0_recount 28 = .ok (.getfield 116, 3) := by decide +kernel
theorem dX0_recount_31 : decode cX0_recount 31 = .ok (.iload_n 1, 1) := by decide +kernel
theorem dX0_recount_32 : decode cX0_recount 32 = .ok (.invokestatic 82, 3) := by decide +kernel
theorem dX0_recount_35 : decode cX0_recount 35 = .ok (.aload_n 0, 1) := by decide +kernel
theorem dX0_recount_36 : decode cX0_recount 36 = .ok (.dup, 1) := by decide +kernel
theorem dX0_recount_37 : decode cX0_recount 37 = .ok (.getfield 116, 3) := by decide +kernel
theorem dX0_recount_40 : decode cX0_recount 40 = .ok (.iconst 1, 1) := by decide +kernel
theorem dX0_recount_41 : decode cX0_recount 41 = .ok (.iadd, 1) := by decide +kernel
theorem dX0_recount_42 : decode cX0_recount 42 = .ok (.putfield 116, 3) := by decide +kernel
theorem dX0_recount_45 : decode cX0_recount 45 = .ok (.iinc 1 1, 3) := by decide +kernel
theorem dX0_recount_48 : decode cX0_recount 48 = .ok (.goto (-41), 3) := by decide +kernel
theorem dX0_recount_51 : decode cX0_recount 51 = .ok (.aload_n 0, 1) := by decide +kernel
theorem dX0_recount_52 : decode cX0_recount 52 = .ok (.iconst 0, 1) := by decide +kernel
theorem dX0_recount_53 : decode cX0_recount 53 = .ok (.putfield 86, 3) := by decide +kernel
theorem dX0_recount_56 : decode cX0_recount 56 = .ok (.iconst 0, 1) := by decide +kernel
theorem dX0_recount_57 : decode cX0_recount 57 = .ok (.istore_n 1, 1) := by decide +kernel
theorem dX0_recount_58 : decode cX0_recount 58 = .ok (.iload_n 1, 1) := by decide +kernel
theorem dX0_recount_59 : decode cX0_recount 59 = .ok (.aload_n 0, 1) := by decide +kernel
theorem dX0_recount_60 : decode cX0_recount 60 = .ok (.getfield 116, 3) := by decide +kernel
theorem dX0_recount_63 : decode cX0_recount 63 = .ok (.if_icmp .ge 48, 3) := by decide +kernel
theorem dX0_recount_66 : decode cX0_recount 66 = .ok (.iload_n 1, 1) := by decide +kernel
theorem dX0_recount_67 : decode cX0_recount 67 = .ok (.ifCond .eq 14, 3) := by decide +kernel
theorem dX0_recount_70 : decode cX0_recount 70 = .ok (.aload_n 0, 1) := by decide +kernel
theorem dX0_recount_71 : decode cX0_recount 71 = .ok (.iload_n 1, 1) := by decide +kernel
theorem dX0_recount_72 : decode cX0_recount 72 = .ok (.iconst 1, 1) := by decide +kernel
theorem dX0_recount_73 : decode cX0_recount 73 = .ok (.isub, 1) := by decide +kernel
theorem dX0_recount_74 : decode cX0_recount 74 = .ok (.invokevirtual 134, 3) := by decide +kernel
theorem dX0_recount_77 : decode cX0_recount 77 = .ok (.iconst 2, 1) := by decide +kernel
theorem dX0_recount_78 : decode cX0_recount 78 = .ok (.if_icmp .ne 13, 3) := by decide +kernel
theorem dX0_recount_81 : decode cX0_recount 81 = .ok (.aload_n 0, 1) := by decide +kernel
theorem dX0_recount_82 : decode cX0_recount 82 = .ok (.dup, 1) := by decide +kernel
theorem dX0_recount_83 : decode cX0_recount 83 = .ok (.getfield 86, 3) := by decide +kernel
theorem dX0_recount_86 : decode cX0_recount 86 = .ok (.iconst 1, 1) := by decide +kernel
theorem dX0_recount_87 : decode cX0_recount 87 = .ok (.iadd, 1) := by decide +kernel
theorem dX0_recount_88 : decode cX0_recount 88 = .ok (.putfield 86, 3) := by decide +kernel
theorem dX0_recount_91 : decode cX0_recount 91 = .ok (.aload_n 0, 1) := by decide +kernel
theorem dX0_recount_92 : decode cX0_recount 92 = .ok (.getfield 22, 3) := by decide +kernel
theorem dX0_recount_95 : decode cX0_recount 95 = .ok (.iload_n 1, 1) := by decide +kernel
theorem dX0_recount_96 : decode cX0_recount 96 = .ok (.aload_n 0, 1) := by decide +kernel
theorem dX0_recount_97 : decode cX0_recount 97 = .ok (.getfield 86, 3) := by decide +kernel
theorem dX0_recount_100 : decode cX0_recount 100 = .ok (.iconst 1, 1) := by decide +kernel
theorem dX0_recount_101 : decode cX0_recount 101 = .ok (.isub, 1) := by decide +kernel
theorem dX0_recount_102 : decode cX0_recount 102 = .ok (.invokestatic 82, 3) := by decide +kernel
theorem dX0_recount_105 : decode cX0_recount 105 = .ok (.iinc 1 1, 3) := by decide +kernel
theorem dX0_recount_108 : decode cX0_recount 108 = .ok (.goto (-50), 3) := by decide +kernel
theorem dX0_recount_111 : decode cX0_recount 111 = .ok (.return_, 1) := by decide +kernel
set_option maxRecDepth 20000 in
theorem ggX0_coughStandsAt_X0_read : GoodIn wsX0_coughStandsAt wsX0_read := goodIn_r _ [5] (by decide +kernel) (by decide +kernel)
set_option maxRecDepth 20000 in
theorem gX0_coughStandsAt_X0_read : GoodIn wsX0_coughStandsAt (va_wsS RX0 78 yX0_read wsX0_read) := goodIn_app (goodIn_of _ (by decide +kernel)) ggX0_coughStandsAt_X0_read
theorem dX0_coughStandsAt_0 : decode cX0_coughStandsAt 0 = .ok (.aload_n 0, 1) := by decide +kernel
theorem dX0_coughStandsAt_1 : decode cX0_coughStandsAt 1 = .ok (.getfield 13, 3) := by decide +kernel
theorem dX0_coughStandsAt_4 : decode cX0_coughStandsAt 4 = .ok (.iload_n 1, 1) := by decide +kernel
theorem dX0_coughStandsAt_5 : decode cX0_coughStandsAt 5 = .ok (.invokestatic 78, 3) := by decide +kernel
theorem dX0_coughStandsAt_8 : decode cX0_coughStandsAt 8 = .ok (.iconst (-1), 1) := by decide +kernel
theorem dX0_coughStandsAt_9 : decode cX0_coughStandsAt 9 = .ok (.if_icmp .ne 7, 3) := by decide +kernel
theorem dX0_coughStandsAt_12 : decode cX0_coughStandsAt 12 = .ok (.iconst 1, 1) := by decide +kernel
theorem dX0_coughStandsAt_13 : decode cX0_coughStandsAt 13 = .ok (.goto 4, 3) := by decide +kernel
theorem dX0_coughStandsAt_16 : decode cX0_coughStandsAt 16 = .ok (.iconst 0, 1) := by decide +kernel
theorem dX0_coughStandsAt_17 : decode cX0_coughStandsAt 17 = .ok (.ireturn, 1) := by decide +kernel
set_option maxRecDepth 20000 in
theorem ggX0_speakerOfWord_X0_read : GoodIn wsX0_speakerOfWord wsX0_read := goodIn_r _ [6] (by decide +kernel) (by decide +kernel)
set_option maxRecDepth 20000 in
theorem gX0_speakerOfWord_X0_read : GoodIn wsX0_speakerOfWord (va_wsS RX0 78 yX0_read wsX0_read) := goodIn_app (goodIn_of _ (by decide +kernel)) ggX0_speakerOfWord_X0_read
theorem dX0_speakerOfWord_0 : decode cX0_speakerOfWord 0 = .ok (.aload_n 0, 1) := by decide +kernel
theorem dX0_speakerOfWord_1 : decode cX0_speakerOfWord 1 = .ok (.getfield 9, 3) := by decide +kernel
theorem dX0_speakerOfWord_4 : decode cX0_speakerOfWord 4 = .ok (.aload_n 0, 1) := by decide +kernel
theorem dX0_speakerOfWord_5 : decode cX0_speakerOfWord 5 = .ok (.getfield 19, 3) := by decide +kernel
theorem dX0_speakerOfWord_8 : decode cX0_speakerOfWord 8 = .ok (.iload_n 1, 1) := by decide +kernel
theorem dX0_speakerOfWord_9 : decode cX0_speakerOfWord 9 = .ok (.invokestatic 78, 3) := by decide +kernel
theorem dX0_speakerOfWord_12 : decode cX0_speakerOfWord 12 = .ok (.invokestatic 78, 3) := by decide +kernel
theorem dX0_speakerOfWord_15 : decode cX0_speakerOfWord 15 = .ok (.ireturn, 1) := by decide +kernel
set_option maxRecDepth 20000 in
theorem ggX0_topicOfWord_X0_read : GoodIn wsX0_topicOfWord wsX0_read := goodIn_r _ [6] (by decide +kernel) (by decide +kernel)
set_option maxRecDepth 20000 in
theorem gX0_topicOfWord_X0_read : GoodIn wsX0_topicOfWord (va_wsS RX0 78 yX0_read wsX0_read) := goodIn_app (goodIn_of _ (by decide +kernel)) ggX0_topicOfWord_X0_read
theorem dX0_topicOfWord_0 : decode cX0_topicOfWord 0 = .ok (.aload_n 0, 1) := by decide +kernel
theorem dX0_topicOfWord_1 : decode cX0_topicOfWord 1 = .ok (.getfield 13, 3) := by decide +kernel
theorem dX0_topicOfWord_4 : decode cX0_topicOfWord 4 = .ok (.aload_n 0, 1) := by decide +kernel
theorem dX0_topicOfWord_5 : decode cX0_topicOfWord 5 = .ok (.getfield 19, 3) := by decide +kernel
theorem dX0_topicOfWord_8 : decode cX0_topicOfWord 8 = .ok (.iload_n 1, 1) := by decide +kernel
theorem dX0_topicOfWord_9 : decode cX0_topicOfWord 9 = .ok (.invokestatic 78, 3) := by decide +kernel
theorem dX0_topicOfWord_12 : decode cX0_topicOfWord 12 = .ok (.invokestatic 78, 3) := by decide +kernel
theorem dX0_topicOfWord_15 : decode cX0_topicOfWord 15 = .ok (.ireturn, 1) := by decide +kernel
set_option maxRecDepth 20000 in
theorem ggX0_threadOfWord_X0_read : GoodIn wsX0_threadOfWord wsX0_read := goodIn_r _ [5] (by decide +kernel) (by decide +kernel)
set_option maxRecDepth 20000 in
theorem gX0_threadOfWord_X0_read : GoodIn wsX0_threadOfWord (va_wsS RX0 78 yX0_read wsX0_read) := goodIn_app (goodIn_of _ (by decide +kernel)) ggX0_threadOfWord_X0_read
theorem dX0_threadOfWord_0 : decode cX0_threadOfWord 0 = .ok (.aload_n 0, 1) := by decide +kernel
theorem dX0_threadOfWord_1 : decode cX0_threadOfWord 1 = .ok (.getfield 22, 3) := by decide +kernel
theorem dX0_threadOfWord_4 : decode cX0_threadOfWord 4 = .ok (.iload_n 1, 1) := by decide +kernel
theorem dX0_threadOfWord_5 : decode cX0_threadOfWord 5 = .ok (.invokestatic 78, 3) := by decide +kernel
theorem dX0_threadOfWord_8 : decode cX0_threadOfWord 8 = .ok (.ireturn, 1) := by decide +kernel
set_option maxRecDepth 20000 in
theorem ggX0_wordsInThread_X0_threadOfWord : GoodIn wsX0_wordsInThread wsX0_threadOfWord := goodIn_r _ [6, 7, 8, 9, 5, 10, 11, 12, 13, 14, 15, 16, 17, 18, 19, 20] (by decide +kernel) (by decide +kernel)
set_option maxRecDepth 20000 in
theorem gX0_wordsInThread_X0_threadOfWord : GoodIn wsX0_wordsInThread (wsV RX0 140 RX0 yX0_threadOfWord wsX0_threadOfWord) := goodIn_app (goodIn_of _ (by decide +kernel)) ggX0_wordsInThread_X0_threadOfWord
theorem dX0_wordsInThread_0 : decode cX0_wordsInThread 0 = .ok (.iconst 0, 1) := by decide +kernel
theorem dX0_wordsInThread_1 : decode cX0_wordsInThread 1 = .ok (.istore_n 2, 1) := by decide +kernel
theorem dX0_wordsInThread_2 : decode cX0_wordsInThread 2 = .ok (.iconst 0, 1) := by decide +kernel
theorem dX0_wordsInThread_3 : decode cX0_wordsInThread 3 = .ok (.istore_n 3, 1) := by decide +kernel
theorem dX0_wordsInThread_4 : decode cX0_wordsInThread 4 = .ok (.iload_n 3, 1) := by decide +kernel
theorem dX0_wordsInThread_5 : decode cX0_wordsInThread 5 = .ok (.aload_n 0, 1) := by decide +kernel
theorem dX0_wordsInThread_6 : decode cX0_wordsInThread 6 = .ok (.getfield 116, 3) := by decide +kernel
theorem dX0_wordsInThread_9 : decode cX0_wordsInThread 9 = .ok (.if_icmp .ge 21, 3) := by decide +kernel
theorem dX0_wordsInThread_12 : decode cX0_wordsInThread 12 = .ok (.aload_n 0, 1) := by decide +kernel
theorem dX0_wordsInThread_13 : decode cX0_wordsInThread 13 = .ok (.iload_n 3, 1) := by decide +kernel
theorem dX0_wordsInThread_14 : decode cX0_wordsInThread 14 = .ok (.invokevirtual 140, 3) := by decide +kernel
theorem dX0_wordsInThread_17 : decode cX0_wordsInThread 17 = .ok (.iload_n 1, 1) := by decide +kernel
theorem dX0_wordsInThread_18 : decode cX0_wordsInThread 18 = .ok (.if_icmp .ne 6, 3) := by decide +kernel
theorem dX0_wordsInThread_21 : decode cX0_wordsInThread 21 = .ok (.iinc 2 1, 3) := by decide +kernel
theorem dX0_wordsInThread_24 : decode cX0_wordsInThread 24 = .ok (.iinc 3 1, 3) := by decide +kernel
theorem dX0_wordsInThread_27 : decode cX0_wordsInThread 27 = .ok (.goto (-23), 3) := by decide +kernel
theorem dX0_wordsInThread_30 : decode cX0_wordsInThread 30 = .ok (.iload_n 2, 1) := by decide +kernel
theorem dX0_wordsInThread_31 : decode cX0_wordsInThread 31 = .ok (.ireturn, 1) := by decide +kernel
theorem dX0_gapCount_0 : decode cX0_gapCount 0 = .ok (.aload_n 0, 1) := by decide +kernel
theorem dX0_gapCount_1 : decode cX0_gapCount 1 = .ok (.getfield 116, 3) := by decide +kernel
theorem dX0_gapCount_4 : decode cX0_gapCount 4 = .ok (.ifCond .ne 7, 3) := by decide +kernel
theorem dX0_gapCount_7 : decode cX0_gapCount 7 = .ok (.iconst 0, 1) := by decide +kernel
theorem dX0_gapCount_8 : decode cX0_gapCount 8 = .ok (.goto 9, 3) := by decide +kernel
theorem dX0_gapCount_11 : decode cX0_gapCount 11 = .ok (.aload_n 0, 1) := by decide +kernel
theorem dX0_gapCount_12 : decode cX0_gapCount 12 = .ok (.getfield 116, 3) := by decide +kernel
theorem dX0_gapCount_15 : decode cX0_gapCount 15 = .ok (.iconst 1, 1) := by decide +kernel
theorem dX0_gapCount_16 : decode cX0_gapCount 16 = .ok (.isub, 1) := by decide +kernel
theorem dX0_gapCount_17 : decode cX0_gapCount 17 = .ok (.ireturn, 1) := by decide +kernel
set_option maxRecDepth 20000 in
theorem ggX0_gapTied_X0_read : GoodIn wsX0_gapTied wsX0_read := goodIn_r _ [6] (by decide +kernel) (by decide +kernel)
set_option maxRecDepth 20000 in
theorem gX0_gapTied_X0_read : GoodIn wsX0_gapTied (va_wsS RX0 78 yX0_read wsX0_read) := goodIn_app (goodIn_of _ (by decide +kernel)) ggX0_gapTied_X0_read
theorem dX0_gapTied_0 : decode cX0_gapTied 0 = .ok (.aload_n 0, 1) := by decide +kernel
theorem dX0_gapTied_1 : decode cX0_gapTied 1 = .ok (.getfield 16, 3) := by decide +kernel
theorem dX0_gapTied_4 : decode cX0_gapTied 4 = .ok (.aload_n 0, 1) := by decide +kernel
theorem dX0_gapTied_5 : decode cX0_gapTied 5 = .ok (.getfield 19, 3) := by decide +kernel
theorem dX0_gapTied_8 : decode cX0_gapTied 8 = .ok (.iload_n 1, 1) := by decide +kernel
theorem dX0_gapTied_9 : decode cX0_gapTied 9 = .ok (.invokestatic 78, 3) := by decide +kernel
theorem dX0_gapTied_12 : decode cX0_gapTied 12 = .ok (.invokestatic 78, 3) := by decide +kernel
theorem dX0_gapTied_15 : decode cX0_gapTied 15 = .ok (.iconst 1, 1) := by decide +kernel
theorem dX0_gapTied_16 : decode cX0_gapTied 16 = .ok (.if_icmp .ne 7, 3) := by decide +kernel
theorem dX0_gapTied_19 : decode cX0_gapTied 19 = .ok (.iconst 1, 1) := by decide +kernel
theorem dX0_gapTied_20 : decode cX0_gapTied 20 = .ok (.goto 4, 3) := by decide +kernel
theorem dX0_gapTied_23 : decode cX0_gapTied 23 = .ok (.iconst 0, 1) := by decide +kernel
theorem dX0_gapTied_24 : decode cX0_gapTied 24 = .ok (.ireturn, 1) := by decide +kernel
set_option maxRecDepth 20000 in
theorem ggX0_ofOneSpeaker_X0_speakerOfWord : GoodIn wsX0_ofOneSpeaker wsX0_speakerOfWord := goodIn_r _ [5, 6, 7, 8, 9, 4, 10, 11, 12, 13, 14, 15, 16, 17, 18, 19, 20] (by decide +kernel) (by decide +kernel)
set_option maxRecDepth 20000 in
theorem gX0_ofOneSpeaker_X0_speakerOfWord : GoodIn wsX0_ofOneSpeaker (wsV RX0 89 RX0 yX0_speakerOfWord wsX0_speakerOfWord) := goodIn_app (goodIn_of _ (by decide +kernel)) ggX0_ofOneSpeaker_X0_speakerOfWord
theorem dX0_ofOneSpeaker_0 : decode cX0_ofOneSpeaker 0 = .ok (.aload_n 0, 1) := by decide +kernel
theorem dX0_ofOneSpeaker_1 : decode cX0_ofOneSpeaker 1 = .ok (.iload_n 1, 1) := by decide +kernel
theorem dX0_ofOneSpeaker_2 : decode cX0_ofOneSpeaker 2 = .ok (.invokevirtual 89, 3) := by decide +kernel
theorem dX0_ofOneSpeaker_5 : decode cX0_ofOneSpeaker 5 = .ok (.aload_n 0, 1) := by decide +kernel
theorem dX0_ofOneSpeaker_6 : decode cX0_ofOneSpeaker 6 = .ok (.iload_n 1, 1) := by decide +kernel
theorem dX0_ofOneSpeaker_7 : decode cX0_ofOneSpeaker 7 = .ok (.iconst 1, 1) := by decide +kernel
theorem dX0_ofOneSpeaker_8 : decode cX0_ofOneSpeaker 8 = .ok (.iadd, 1) := by decide +kernel
theorem dX0_ofOneSpeaker_9 : decode cX0_ofOneSpeaker 9 = .ok (.invokevirtual 89, 3) := by decide +kernel
theorem dX0_ofOneSpeaker_12 : decode cX0_ofOneSpeaker 12 = .ok (.if_icmp .ne 7, 3) := by decide +kernel
theorem dX0_ofOneSpeaker_15 : decode cX0_ofOneSpeaker 15 = .ok (.iconst 1, 1) := by decide +kernel
theorem dX0_ofOneSpeaker_16 : decode cX0_ofOneSpeaker 16 = .ok (.goto 4, 3) := by decide +kernel
theorem dX0_ofOneSpeaker_19 : decode cX0_ofOneSpeaker 19 = .ok (.iconst 0, 1) := by decide +kernel
theorem dX0_ofOneSpeaker_20 : decode cX0_ofOneSpeaker 20 = .ok (.ireturn, 1) := by decide +kernel
set_option maxRecDepth 20000 in
theorem ggX0_coughsOfGap_X0_read : GoodIn wsX0_coughsOfGap wsX0_read := goodIn_r _ [5] (by decide +kernel) (by decide +kernel)
set_option maxRecDepth 20000 in
theorem gX0_coughsOfGap_X0_read : GoodIn wsX0_coughsOfGap (va_wsS RX0 78 yX0_read wsX0_read) := goodIn_app (goodIn_of _ (by decide +kernel)) ggX0_coughsOfGap_X0_read
theorem dX0_coughsOfGap_0 : decode cX0_coughsOfGap 0 = .ok (.aload_n 0, 1) := by decide +kernel
theorem dX0_coughsOfGap_1 : decode cX0_coughsOfGap 1 = .ok (.getfield 19, 3) := by decide +kernel
theorem dX0_coughsOfGap_4 : decode cX0_coughsOfGap 4 = .ok (.iload_n 1, 1) := by decide +kernel
theorem dX0_coughsOfGap_5 : decode cX0_coughsOfGap 5 = .ok (.iconst 1, 1) := by decide +kernel
theorem dX0_coughsOfGap_6 : decode cX0_coughsOfGap 6 = .ok (.iadd, 1) := by decide +kernel
theorem dX0_coughsOfGap_7 : decode cX0_coughsOfGap 7 = .ok (.invokestatic 78, 3) := by decide +kernel
theorem dX0_coughsOfGap_10 : decode cX0_coughsOfGap 10 = .ok (.aload_n 0, 1) := by decide +kernel
theorem dX0_coughsOfGap_11 : decode cX0_coughsOfGap 11 = .ok (.getfield 19, 3) := by decide +kernel
theorem dX0_coughsOfGap_14 : decode cX0_coughsOfGap 14 = .ok (.iload_n 1, 1) := by decide +kernel
theorem dX0_coughsOfGap_15 : decode cX0_coughsOfGap 15 = .ok (.invokestatic 78, 3) := by decide +kernel
theorem dX0_coughsOfGap_18 : decode cX0_coughsOfGap 18 = .ok (.isub, 1) := by decide +kernel
theorem dX0_coughsOfGap_19 : decode cX0_coughsOfGap 19 = .ok (.iconst 1, 1) := by decide +kernel
theorem dX0_coughsOfGap_20 : decode cX0_coughsOfGap 20 = .ok (.isub, 1) := by decide +kernel
theorem dX0_coughsOfGap_21 : decode cX0_coughsOfGap 21 = .ok (.ireturn, 1) := by decide +kernel
set_option maxRecDepth 20000 in
theorem ggX0_strainOfGap_X0_topicOfWord : GoodIn wsX0_strainOfGap wsX0_topicOfWord := goodIn_r _ [5, 6, 7, 8, 9, 4, 10, 25, 26, 27, 28, 29, 30, 31, 32, 33, 34] (by decide +kernel) (by decide +kernel)
set_option maxRecDepth 20000 in
theorem gX0_strainOfGap_X0_topicOfWord : GoodIn wsX0_strainOfGap (wsV RX0 93 RX0 yX0_topicOfWord wsX0_topicOfWord) := goodIn_app (goodIn_of _ (by decide +kernel)) ggX0_strainOfGap_X0_topicOfWord
set_option maxRecDepth 20000 in
theorem ggX0_strainOfGap_X0_topicDistance : GoodIn wsX0_strainOfGap wsX0_topicDistance := goodIn_r _ [13, 14, 15, 16, 17, 18, 19, 20] (by decide +kernel) (by decide +kernel)
set_option maxRecDepth 20000 in
theorem gX0_strainOfGap_X0_topicDistance : GoodIn wsX0_strainOfGap (va_wsS RX0 164 yX0_topicDistance wsX0_topicDistance) := goodIn_app (goodIn_of _ (by decide +kernel)) ggX0_strainOfGap_X0_topicDistance
set_option maxRecDepth 20000 in
theorem ggX0_strainOfGap_X0_coughsOfGap : GoodIn wsX0_strainOfGap wsX0_coughsOfGap := goodIn_r _ [24, 7, 8, 9, 4, 10, 25, 26, 27, 28, 29, 30, 31, 32, 33, 34] (by decide +kernel) (by decide +kernel)
set_option maxRecDepth 20000 in
theorem gX0_strainOfGap_X0_coughsOfGap : GoodIn wsX0_strainOfGap (wsV RX0 125 RX0 yX0_coughsOfGap wsX0_coughsOfGap) := goodIn_app (goodIn_of _ (by decide +kernel)) ggX0_strainOfGap_X0_coughsOfGap
theorem dX0_strainOfGap_0 : decode cX0_strainOfGap 0 = .ok (.aload_n 0, 1) := by decide +kernel
theorem dX0_strainOfGap_1 : decode cX0_strainOfGap 1 = .ok (.iload_n 1, 1) := by decide +kernel
theorem dX0_strainOfGap_2 : decode cX0_strainOfGap 2 = .ok (.invokevirtual 93, 3) := by decide +kernel
theorem dX0_strainOfGap_5 : decode cX0_strainOfGap 5 = .ok (.aload_n 0, 1) := by decide +kernel
theorem dX0_strainOfGap_6 : decode cX0_strainOfGap 6 = .ok (.iload_n 1, 1) := by decide +kernel
theorem dX0_strainOfGap_7 : decode cX0_strainOfGap 7 = .ok (.iconst 1, 1) := by decide +kernel
theorem dX0_strainOfGap_8 : decode cX0_strainOfGap 8 = .ok (.iadd, 1) := by decide +kernel
theorem dX0_strainOfGap_9 : decode cX0_strainOfGap 9 = .ok (.invokevirtual 93, 3) := by decide +kernel
theorem dX0_strainOfGap_12 : decode cX0_strainOfGap 12 = .ok (.invokestatic 164, 3) := by decide +kernel
theorem dX0_strainOfGap_15 : decode cX0_strainOfGap 15 = .ok (.aload_n 0, 1) := by decide +kernel
theorem dX0_strainOfGap_16 : decode cX0_strainOfGap 16 = .ok (.iload_n 1, 1) := by decide +kernel
theorem dX0_strainOfGap_17 : decode cX0_strainOfGap 17 = .ok (.invokevirtual 125, 3) := by decide +kernel
theorem dX0_strainOfGap_20 : decode cX0_strainOfGap 20 = .ok (.iadd, 1) := by decide +kernel
theorem dX0_strainOfGap_21 : decode cX0_strainOfGap 21 = .ok (.ireturn, 1) := by decide +kernel
set_option maxRecDepth 20000 in
theorem ggX0_kindOfGap_X0_gapTied : GoodIn wsX0_kindOfGap wsX0_gapTied := goodIn_r _ [5, 6, 7, 8, 9, 4, 10, 49, 50, 51, 52, 53, 54, 55, 56, 57, 58] (by decide +kernel) (by decide +kernel)
set_option maxRecDepth 20000 in
theorem gX0_kindOfGap_X0_gapTied : GoodIn wsX0_kindOfGap (wsV RX0 131 RX0 yX0_gapTied wsX0_gapTied) := goodIn_app (goodIn_of _ (by decide +kernel)) ggX0_kindOfGap_X0_gapTied
set_option maxRecDepth 20000 in
theorem ggX0_kindOfGap_X0_strainOfGap : GoodIn wsX0_kindOfGap wsX0_strainOfGap := goodIn_r _ [14, 15, 16, 17, 4, 18, 19, 7, 8, 9, 10, 20, 21, 22, 23, 24, 25, 26, 27, 28, 29, 30, 31, 32, 33, 49, 50, 51, 52, 53, 54, 55, 56, 57, 58] (by decide +kernel) (by decide +kernel)
set_option maxRecDepth 20000 in
theorem gX0_kindOfGap_X0_strainOfGap : GoodIn wsX0_kindOfGap (wsV RX0 128 RX0 yX0_strainOfGap wsX0_strainOfGap) := goodIn_app (goodIn_of _ (by decide +kernel)) ggX0_kindOfGap_X0_strainOfGap
set_option maxRecDepth 20000 in
theorem ggX0_kindOfGap_X0_ofOneSpeaker : GoodIn wsX0_kindOfGap wsX0_ofOneSpeaker := goodIn_r _ [37, 38, 39, 40, 4, 41, 42, 7, 8, 9, 10, 49, 50, 51, 52, 53, 54, 55, 56, 57, 58] (by decide +kernel) (by decide +kernel)
set_option maxRecDepth 20000 in
theorem gX0_kindOfGap_X0_ofOneSpeaker : GoodIn wsX0_kindOfGap (wsV RX0 221 RX0 yX0_ofOneSpeaker wsX0_ofOneSpeaker) := goodIn_app (goodIn_of _ (by decide +kernel)) ggX0_kindOfGap_X0_ofOneSpeaker
set_option maxRecDepth 20000 in
theorem ggX0_kindOfGap_X0_kindOf : GoodIn wsX0_kindOfGap wsX0_kindOf := goodIn_r _ [45, 46, 47, 4, 48] (by decide +kernel) (by decide +kernel)
set_option maxRecDepth 20000 in
theorem gX0_kindOfGap_X0_kindOf : GoodIn wsX0_kindOfGap (va_wsS RX0 167 yX0_kindOf wsX0_kindOf) := goodIn_app (goodIn_of _ (by decide +kernel)) ggX0_kindOfGap_X0_kindOf
theorem dX0_kindOfGap_0 : decode cX0_kindOfGap 0 = .ok (.aload_n 0, 1) := by decide +kernel
theorem dX0_kindOfGap_1 : decode cX0_kindOfGap 1 = .ok (.iload_n 1, 1) := by decide +kernel
theorem dX0_kindOfGap_2 : decode cX0_kindOfGap 2 = .ok (.invokevirtual 131, 3) := by decide +kernel
theorem dX0_kindOfGap_5 : decode cX0_kindOfGap 5 = .ok (.aload_n 0, 1) := by decide +kernel
theorem dX0_kindOfGap_6 : decode cX0_kindOfGap 6 = .ok (.iload_n 1, 1) := by decide +kernel
theorem dX0_kindOfGap_7 : decode cX0_kindOfGap 7 = .ok (.invokevirtual 128, 3) := by decide +kernel
theorem dX0_kindOfGap_10 : decode cX0_kindOfGap 10 = .ok (.aload_n 0, 1) := by decide +kernel
theorem dX0_kindOfGap_11 : decode cX0_kindOfGap 11 = .ok (.iload_n 1, 1) := by decide +kernel
theorem dX0_kindOfGap_12 : decode cX0_kindOfGap 12 = .ok (.invokevirtual 221, 3) := by decide +kernel
theorem dX0_kindOfGap_15 : decode cX0_kindOfGap 15 = .ok (.invokestatic 167, 3) := by decide +kernel
theorem dX0_kindOfGap_18 : decode cX0_kindOfGap 18 = .ok (.ireturn, 1) := by decide +kernel
set_option maxRecDepth 20000 in
theorem ggX0_gapsOfKind_X0_gapCount : GoodIn wsX0_gapsOfKind wsX0_gapCount := goodIn_r _ [5, 6, 58, 59, 60, 61, 62, 63, 64, 65, 66, 67] (by decide +kernel) (by decide +kernel)
set_option maxRecDepth 20000 in
theorem gX0_gapsOfKind_X0_gapCount : GoodIn wsX0_gapsOfKind (wsV RX0 157 RX0 yX0_gapCount wsX0_gapCount) := goodIn_app (goodIn_of _ (by decide +kernel)) ggX0_gapsOfKind_X0_gapCount
set_option maxRecDepth 20000 in
theorem ggX0_gapsOfKind_X0_kindOfGap : GoodIn wsX0_gapsOfKind wsX0_kindOfGap := goodIn_r _ [10, 11, 12, 13, 4, 14, 15, 16, 17, 18, 19, 20, 21, 22, 23, 24, 25, 26, 27, 28, 29, 30, 31, 32, 33, 34, 35, 36, 37, 38, 39, 40, 41, 42, 43, 44, 45, 46, 47, 48, 49, 50, 51, 52, 53, 54, 55, 56, 57, 58, 59, 60, 61, 62, 63, 64, 65, 66, 67] (by decide +kernel) (by decide +kernel)
set_option maxRecDepth 20000 in
theorem gX0_gapsOfKind_X0_kindOfGap : GoodIn wsX0_gapsOfKind (wsV RX0 134 RX0 yX0_kindOfGap wsX0_kindOfGap) := goodIn_app (goodIn_of _ (by decide +kernel)) ggX0_gapsOfKind_X0_kindOfGap
theorem dX0_gapsOfKind_0 : decode cX0_gapsOfKind 0 = .ok (.iconst 0, 1) := by decide +kernel
theorem dX0_gapsOfKind_1 : decode cX0_gapsOfKind 1 = .ok (.istore_n 2, 1) := by decide +kernel
theorem dX0_gapsOfKind_2 : decode cX0_gapsOfKind 2 = .ok (.iconst 0, 1) := by decide +kernel
theorem dX0_gapsOfKind_3 : decode cX0_gapsOfKind 3 = .ok (.istore_n 3, 1) := by decide +kernel
theorem dX0_gapsOfKind_4 : decode cX0_gapsOfKind 4 = .ok (.iload_n 3, 1) := by decide +kernel
theorem dX0_gapsOfKind_5 : decode cX0_gapsOfKind 5 = .ok (.aload_n 0, 1) := by decide +kernel
theorem dX0_gapsOfKind_6 : decode cX0_gapsOfKind 6 = .ok (.invokevirtual 157, 3) := by decide +kernel
theorem dX0_gapsOfKind_9 : decode cX0_gapsOfKind 9 = .ok (.if_icmp .ge 21, 3) := by decide +kernel
theorem dX0_gapsOfKind_12 : decode cX0_gapsOfKind 12 = .ok (.aload_n 0, 1) := by decide +kernel
theorem dX0_gapsOfKind_13 : decode cX0_gapsOfKind 13 = .ok (.iload_n 3, 1) := by decide +kernel
theorem dX0_gapsOfKind_14 : decode cX0_gapsOfKind 14 = .ok (.invokevirtual 134, 3) := by decide +kernel
theorem dX0_gapsOfKind_17 : decode cX0_gapsOfKind 17 = .ok (.iload_n 1, 1) := by decide +kernel
theorem dX0_gapsOfKind_18 : decode cX0_gapsOfKind 18 = .ok (.if_icmp .ne 6, 3) := by decide +kernel
theorem dX0_gapsOfKind_21 : decode cX0_gapsOfKind 21 = .ok (.iinc 2 1, 3) := by decide +kernel
theorem dX0_gapsOfKind_24 : decode cX0_gapsOfKind 24 = .ok (.iinc 3 1, 3) := by decide +kernel
theorem dX0_gapsOfKind_27 : decode cX0_gapsOfKind 27 = .ok (.goto (-23), 3) := by decide +kernel
theorem dX0_gapsOfKind_30 : decode cX0_gapsOfKind 30 = .ok (.iload_n 2, 1) := by decide +kernel
theorem dX0_gapsOfKind_31 : decode cX0_gapsOfKind 31 = .ok (.ireturn, 1) := by decide +kernel
set_option maxRecDepth 20000 in
theorem ggX0_mendingCost_X0_kindOfGap : GoodIn wsX0_mendingCost wsX0_kindOfGap := goodIn_r _ [9, 10, 11, 12, 8, 13, 14, 15, 16, 17, 18, 19, 20, 21, 22, 23, 24, 25, 26, 27, 28, 29, 30, 31, 32, 3, 33, 1, 2, 4, 34, 35, 36, 37, 38, 39, 40, 41, 42, 43, 44, 45, 46, 47, 48, 49, 50, 51, 52, 53, 54, 55, 56, 57, 58, 59, 60, 61, 62] (by decide +kernel) (by decide +kernel)
set_option maxRecDepth 20000 in
theorem gX0_mendingCost_X0_kindOfGap : GoodIn wsX0_mendingCost (wsV RX0 134 RX0 yX0_kindOfGap wsX0_kindOfGap) := goodIn_app (goodIn_of _ (by decide +kernel)) ggX0_mendingCost_X0_kindOfGap
set_option maxRecDepth 20000 in
theorem ggX0_mendingCost_X0_strainOfGap : GoodIn wsX0_mendingCost wsX0_strainOfGap := goodIn_r _ [22, 23, 24, 25, 8, 26, 27, 15, 16, 17, 18, 28, 29, 30, 31, 32, 3, 33, 1, 2, 4, 34, 35, 36, 37, 53, 54, 55, 56, 57, 58, 59, 60, 61, 62] (by decide +kernel) (by decide +kernel)
set_option maxRecDepth 20000 in
theorem gX0_mendingCost_X0_strainOfGap : GoodIn wsX0_mendingCost (wsV RX0 128 RX0 yX0_strainOfGap wsX0_strainOfGap) := goodIn_app (goodIn_of _ (by decide +kernel)) ggX0_mendingCost_X0_strainOfGap
set_option maxRecDepth 20000 in
theorem ggX0_mendingCost_X0_ofOneSpeaker : GoodIn wsX0_mendingCost wsX0_ofOneSpeaker := goodIn_r _ [41, 42, 43, 44, 8, 45, 46, 15, 16, 17, 18, 53, 54, 55, 56, 57, 58, 59, 60, 61, 62] (by decide +kernel) (by decide +kernel)
set_option maxRecDepth 20000 in
theorem gX0_mendingCost_X0_ofOneSpeaker : GoodIn wsX0_mendingCost (wsV RX0 221 RX0 yX0_ofOneSpeaker wsX0_ofOneSpeaker) := goodIn_app (goodIn_of _ (by decide +kernel)) ggX0_mendingCost_X0_ofOneSpeaker
set_option maxRecDepth 20000 in
theorem ggX0_mendingCost_X0_mostUnbrokenStrain : GoodIn wsX0_mendingCost wsX0_mostUnbrokenStrain := goodIn_r _ [52] (by decide +kernel) (by decide +kernel)
set_option maxRecDepth 20000 in
theorem gX0_mendingCost_X0_mostUnbrokenStrain : GoodIn wsX0_mendingCost (va_wsS RX0 224 yX0_mostUnbrokenStrain wsX0_mostUnbrokenStrain) := goodIn_app (goodIn_of _ (by decide +kernel)) ggX0_mendingCost_X0_mostUnbrokenStrain
set_option maxRecDepth 20000 in
theorem ggX0_mendingCost_X0_coughsOfGap : GoodIn wsX0_mendingCost wsX0_coughsOfGap := goodIn_r _ [37, 15, 16, 17, 8, 18, 53, 54, 55, 56, 57, 58, 59, 60, 61, 62] (by decide +kernel) (by decide +kernel)
set_option maxRecDepth 20000 in
theorem gX0_mendingCost_X0_coughsOfGap : GoodIn wsX0_mendingCost (wsV RX0 125 RX0 yX0_coughsOfGap wsX0_coughsOfGap) := goodIn_app (goodIn_of _ (by decide +kernel)) ggX0_mendingCost_X0_coughsOfGap
theorem dX0_mendingCost_0 : decode cX0_mendingCost 0 = .ok (.aload_n 0, 1) := by decide +kernel
theorem dX0_mendingCost_1 : decode cX0_mendingCost 1 = .ok (.iload_n 1, 1) := by decide +kernel
theorem dX0_mendingCost_2 : decode cX0_mendingCost 2 = .ok (.invokevirtual 134, 3) := by decide +kernel
theorem dX0_mendingCost_5 : decode cX0_mendingCost 5 = .ok (.iconst 2, 1) := by decide +kernel
theorem dX0_mendingCost_6 : decode cX0_mendingCost 6 = .ok (.if_icmp .eq 5, 3) := by decide +kernel
theorem dX0_mendingCost_9 : decode cX0_mendingCost 9 = .ok (.iconst 0, 1) := by decide +kernel
theorem dX0_mendingCost_10 : decode cX0_mendingCost 10 = .ok (.ireturn, 1) := by decide +kernel
theorem dX0_mendingCost_11 : decode cX0_mendingCost 11 = .ok (.aload_n 0, 1) := by decide +kernel
theorem dX0_mendingCost_12 : decode cX0_mendingCost 12 = .ok (.iload_n 1, 1) := by decide +kernel
theorem dX0_mendingCost_13 : decode cX0_mendingCost 13 = .ok (.invokevirtual 128, 3) := by decide +kernel
theorem dX0_mendingCost_16 : decode cX0_mendingCost 16 = .ok (.aload_n 0, 1) := by decide +kernel
theorem dX0_mendingCost_17 : decode cX0_mendingCost 17 = .ok (.iload_n 1, 1) := by decide +kernel
theorem dX0_mendingCost_18 : decode cX0_mendingCost 18 = .ok (.invokevirtual 221, 3) := by decide +kernel
theorem dX0_mendingCost_21 : decode cX0_mendingCost 21 = .ok (.invokestatic 224, 3) := by decide +kernel
theorem dX0_mendingCost_24 : decode cX0_mendingCost 24 = .ok (.isub, 1) := by decide +kernel
theorem dX0_mendingCost_25 : decode cX0_mendingCost 25 = .ok (.istore_n 2, 1) := by decide +kernel
theorem dX0_mendingCost_26 : decode cX0_mendingCost 26 = .ok (.iload_n 2, 1) := by decide +kernel
theorem dX0_mendingCost_27 : decode cX0_mendingCost 27 = .ok (.aload_n 0, 1) := by decide +kernel
theorem dX0_mendingCost_28 : decode cX0_mendingCost 28 = .ok (.iload_n 1, 1) := by decide +kernel
theorem dX0_mendingCost_29 : decode cX0_mendingCost 29 = .ok (.invokevirtual 125, 3) := by decide +kernel
theorem dX0_mendingCost_32 : decode cX0_mendingCost 32 = .ok (.if_icmp .gt 7, 3) := by decide +kernel
theorem dX0_mendingCost_35 : decode cX0_mendingCost 35 = .ok (.iconst 1, 1) := by decide +kernel
theorem dX0_mendingCost_36 : decode cX0_mendingCost 36 = .ok (.goto 4, 3) := by decide +kernel
theorem dX0_mendingCost_39 : decode cX0_mendingCost 39 = .ok (.iconst 0, 1) := by decide +kernel
theorem dX0_mendingCost_40 : decode cX0_mendingCost 40 = .ok (.istore_n 3, 1) := by decide +kernel
theorem dX0_mendingCost_41 : decode cX0_mendingCost 41 = .ok (.iload_n 3, 1) := by decide +kernel
theorem dX0_mendingCost_42 : decode cX0_mendingCost 42 = .ok (.ifCond .eq 13, 3) := by decide +kernel
theorem dX0_mendingCost_45 : decode cX0_mendingCost 45 = .ok (.iconst 3, 1) := by decide +kernel
theorem dX0_mendingCost_46 : decode cX0_mendingCost 46 = .ok (.iload_n 2, 1) := by decide +kernel
theorem dX0_mendingCost_47 : decode cX0_mendingCost 47 = .ok (.iconst 1, 1) := by decide +kernel
theorem dX0_mendingCost_48 : decode cX0_mendingCost 48 = .ok (.imul, 1) := by decide +kernel
theorem dX0_mendingCost_49 : decode cX0_mendingCost 49 = .ok (.invokestatic 111, 3) := by decide +kernel
theorem dX0_mendingCost_52 : decode cX0_mendingCost 52 = .ok (.goto 4, 3) := by decide +kernel
theorem dX0_mendingCost_55 : decode cX0_mendingCost 55 = .ok (.iconst 3, 1) := by decide +kernel
theorem dX0_mendingCost_56 : decode cX0_mendingCost 56 = .ok (.ireturn, 1) := by decide +kernel
theorem dX0_topicDistance_0 : decode cX0_topicDistance 0 = .ok (.iload_n 0, 1) := by decide +kernel
theorem dX0_topicDistance_1 : decode cX0_topicDistance 1 = .ok (.iload_n 1, 1) := by decide +kernel
theorem dX0_topicDistance_2 : decode cX0_topicDistance 2 = .ok (.isub, 1) := by decide +kernel
theorem dX0_topicDistance_3 : decode cX0_topicDistance 3 = .ok (.invokestatic 228, 3) := by decide +kernel
theorem dX0_topicDistance_6 : decode cX0_topicDistance 6 = .ok (.istore_n 2, 1) := by decide +kernel
theorem dX0_topicDistance_7 : decode cX0_topicDistance 7 = .ok (.iload_n 2, 1) := by decide +kernel
theorem dX0_topicDistance_8 : decode cX0_topicDistance 8 = .ok (.bipush 10, 2) := by decide +kernel
theorem dX0_topicDistance_10 : decode cX0_topicDistance 10 = .ok (.iload_n 2, 1) := by decide +kernel
theorem dX0_topicDistance_11 : decode cX0_topicDistance 11 = .ok (.isub, 1) := by decide +kernel
theorem dX0_topicDistance_12 : decode cX0_topicDistance 12 = .ok (.invokestatic 111, 3) := by decide +kernel
theorem dX0_topicDistance_15 : decode cX0_topicDistance 15 = .ok (.ireturn, 1) := by decide +kernel
set_option maxRecDepth 20000 in
theorem ggX0_topicBetween_X0_topicDistance : GoodIn wsX0_topicBetween wsX0_topicDistance := goodIn_r _ [4, 5, 6, 7, 8, 9, 10, 11] (by decide +kernel) (by decide +kernel)
set_option maxRecDepth 20000 in
theorem gX0_topicBetween_X0_topicDistance : GoodIn wsX0_topicBetween (va_wsS RX0 164 yX0_topicDistance wsX0_topicDistance) := goodIn_app (goodIn_of _ (by decide +kernel)) ggX0_topicBetween_X0_topicDistance
set_option maxRecDepth 20000 in
theorem ggX0_topicBetween_J9_floorMod_7cf53 : GoodIn wsX0_topicBetween wsJ9_floorMod_7cf53 := goodIn_r _ [15] (by decide +kernel) (by decide +kernel)
set_option maxRecDepth 20000 in
theorem gX0_topicBetween_J9_floorMod_7cf53 : GoodIn wsX0_topicBetween (va_wsS RX0 231 yJ9_floorMod_7cf53 wsJ9_floorMod_7cf53) := goodIn_app (goodIn_of _ (by decide +kernel)) ggX0_topicBetween_J9_floorMod_7cf53
theorem dX0_topicBetween_0 : decode cX0_topicBetween 0 = .ok (.iload_n 0, 1) := by decide +kernel
theorem dX0_topicBetween_1 : decode cX0_topicBetween 1 = .ok (.iload_n 1, 1) := by decide +kernel
theorem dX0_topicBetween_2 : decode cX0_topicBetween 2 = .ok (.invokestatic 164, 3) := by decide +kernel
theorem dX0_topicBetween_5 : decode cX0_topicBetween 5 = .ok (.iconst 2, 1) := by decide +kernel
theorem dX0_topicBetween_6 : decode cX0_topicBetween 6 = .ok (.idiv, 1) := by decide +kernel
theorem dX0_topicBetween_7 : decode cX0_topicBetween 7 = .ok (.istore_n 2, 1) := by decide +kernel
theorem dX0_topicBetween_8 : decode cX0_topicBetween 8 = .ok (.iload_n 1, 1) := by decide +kernel
theorem dX0_topicBetween_9 : decode cX0_topicBetween 9 = .ok (.iload_n 0, 1) := by decide +kernel
theorem dX0_topicBetween_10 : decode cX0_topicBetween 10 = .ok (.isub, 1) := by decide +kernel
theorem dX0_topicBetween_11 : decode cX0_topicBetween 11 = .ok (.bipush 10, 2) := by decide +kernel
theorem dX0_topicBetween_13 : decode cX0_topicBetween 13 = .ok (.invokestatic 231, 3) := by decide +kernel
theorem dX0_topicBetween_16 : decode cX0_topicBetween 16 = .ok (.iconst 5, 1) := by decide +kernel
theorem dX0_topicBetween_17 : decode cX0_topicBetween 17 = .ok (.if_icmp .gt 7, 3) := by decide +kernel
theorem dX0_topicBetween_20 : decode cX0_topicBetween 20 = .ok (.iconst 1, 1) := by decide +kernel
theorem dX0_topicBetween_21 : decode cX0_topicBetween 21 = .ok (.goto 4, 3) := by decide +kernel
theorem dX0_topicBetween_24 : decode cX0_topicBetween 24 = .ok (.iconst 0, 1) := by decide +kernel
theorem dX0_topicBetween_25 : decode cX0_topicBetween 25 = .ok (.istore_n 3, 1) := by decide +kernel
theorem dX0_topicBetween_26 : decode cX0_topicBetween 26 = .ok (.iload_n 3, 1) := by decide +kernel
theorem dX0_topicBetween_27 : decode cX0_topicBetween 27 = .ok (.ifCond .eq 9, 3) := by decide +kernel
theorem dX0_topicBetween_30 : decode cX0_topicBetween 30 = .ok (.iload_n 0, 1) := by decide +kernel
theorem dX0_topicBetween_31 : decode cX0_topicBetween 31 = .ok (.iload_n 2, 1) := by decide +kernel
theorem dX0_topicBetween_32 : decode cX0_topicBetween 32 = .ok (.iadd, 1) := by decide +kernel
theorem dX0_topicBetween_33 : decode cX0_topicBetween 33 = .ok (.goto 6, 3) := by decide +kernel
theorem dX0_topicBetween_36 : decode cX0_topicBetween 36 = .ok (.iload_n 0, 1) := by decide +kernel
theorem dX0_topicBetween_37 : decode cX0_topicBetween 37 = .ok (.iload_n 2, 1) := by decide +kernel
theorem dX0_topicBetween_38 : decode cX0_topicBetween 38 = .ok (.isub, 1) := by decide +kernel
theorem dX0_topicBetween_39 : decode cX0_topicBetween 39 = .ok (.bipush 10, 2) := by decide +kernel
theorem dX0_topicBetween_41 : decode cX0_topicBetween 41 = .ok (.invokestatic 231, 3) := by decide +kernel
theorem dX0_topicBetween_44 : decode cX0_topicBetween 44 = .ok (.ireturn, 1) := by decide +kernel
theorem dX0_mostUnbrokenStrain_0 : decode cX0_mostUnbrokenStrain 0 = .ok (.iload_n 0, 1) := by decide +kernel
theorem dX0_mostUnbrokenStrain_1 : decode cX0_mostUnbrokenStrain 1 = .ok (.ifCond .eq 7, 3) := by decide +kernel
theorem dX0_mostUnbrokenStrain_4 : decode cX0_mostUnbrokenStrain 4 = .ok (.iconst 4, 1) := by decide +kernel
theorem dX0_mostUnbrokenStrain_5 : decode cX0_mostUnbrokenStrain 5 = .ok (.goto 4, 3) := by decide +kernel
theorem dX0_mostUnbrokenStrain_8 : decode cX0_mostUnbrokenStrain 8 = .ok (.iconst 2, 1) := by decide +kernel
theorem dX0_mostUnbrokenStrain_9 : decode cX0_mostUnbrokenStrain 9 = .ok (.ireturn, 1) := by decide +kernel
set_option maxRecDepth 20000 in
theorem ggX0_kindOf_X0_mostUnbrokenStrain : GoodIn wsX0_kindOf wsX0_mostUnbrokenStrain := goodIn_r _ [4] (by decide +kernel) (by decide +kernel)
set_option maxRecDepth 20000 in
theorem gX0_kindOf_X0_mostUnbrokenStrain : GoodIn wsX0_kindOf (va_wsS RX0 224 yX0_mostUnbrokenStrain wsX0_mostUnbrokenStrain) := goodIn_app (goodIn_of _ (by decide +kernel)) ggX0_kindOf_X0_mostUnbrokenStrain
theorem dX0_kindOf_0 : decode cX0_kindOf 0 = .ok (.iload_n 0, 1) := by decide +kernel
theorem dX0_kindOf_1 : decode cX0_kindOf 1 = .ok (.ifCond .ne 8, 3) := by decide +kernel
theorem dX0_kindOf_4 : decode cX0_kindOf 4 = .ok (.iload_n 1, 1) := by decide +kernel
theorem dX0_kindOf_5 : decode cX0_kindOf 5 = .ok (.iconst 1, 1) := by decide +kernel
theorem dX0_kindOf_6 : decode cX0_kindOf 6 = .ok (.if_icmp .gt 5, 3) := by decide +kernel
theorem dX0_kindOf_9 : decode cX0_kindOf 9 = .ok (.iconst 0, 1) := by decide +kernel
theorem dX0_kindOf_10 : decode cX0_kindOf 10 = .ok (.ireturn, 1) := by decide +kernel
theorem dX0_kindOf_11 : decode cX0_kindOf 11 = .ok (.iload_n 1, 1) := by decide +kernel
theorem dX0_kindOf_12 : decode cX0_kindOf 12 = .ok (.iload_n 2, 1) := by decide +kernel
theorem dX0_kindOf_13 : decode cX0_kindOf 13 = .ok (.invokestatic 224, 3) := by decide +kernel
theorem dX0_kindOf_16 : decode cX0_kindOf 16 = .ok (.if_icmp .gt 7, 3) := by decide +kernel
theorem dX0_kindOf_19 : decode cX0_kindOf 19 = .ok (.iconst 1, 1) := by decide +kernel
theorem dX0_kindOf_20 : decode cX0_kindOf 20 = .ok (.goto 4, 3) := by decide +kernel
theorem dX0_kindOf_23 : decode cX0_kindOf 23 = .ok (.iconst 2, 1) := by decide +kernel
theorem dX0_kindOf_24 : decode cX0_kindOf 24 = .ok (.ireturn, 1) := by decide +kernel
theorem dX0_read_0 : decode cX0_read 0 = .ok (.iload_n 1, 1) := by decide +kernel
theorem dX0_read_1 : decode cX0_read 1 = .ok (.ifCond .lt 15, 3) := by decide +kernel
theorem dX0_read_4 : decode cX0_read 4 = .ok (.iload_n 1, 1) := by decide +kernel
theorem dX0_read_5 : decode cX0_read 5 = .ok (.aload_n 0, 1) := by decide +kernel
theorem dX0_read_6 : decode cX0_read 6 = .ok (.arraylength, 1) := by decide +kernel
theorem dX0_read_7 : decode cX0_read 7 = .ok (.if_icmp .ge 9, 3) := by decide +kernel
theorem dX0_read_10 : decode cX0_read 10 = .ok (.aload_n 0, 1) := by decide +kernel
theorem dX0_read_11 : decode cX0_read 11 = .ok (.iload_n 1, 1) := by decide +kernel
theorem dX0_read_12 : decode cX0_read 12 = .ok (.iaload, 1) := by decide +kernel
theorem dX0_read_13 : decode cX0_read 13 = .ok (.goto 4, 3) := by decide +kernel
theorem dX0_read_16 : decode cX0_read 16 = .ok (.iconst 0, 1) := by decide +kernel
theorem dX0_read_17 : decode cX0_read 17 = .ok (.ireturn, 1) := by decide +kernel
theorem dX0_write_0 : decode cX0_write 0 = .ok (.iload_n 1, 1) := by decide +kernel
theorem dX0_write_1 : decode cX0_write 1 = .ok (.ifCond .lt 13, 3) := by decide +kernel
theorem dX0_write_4 : decode cX0_write 4 = .ok (.iload_n 1, 1) := by decide +kernel
theorem dX0_write_5 : decode cX0_write 5 = .ok (.aload_n 0, 1) := by decide +kernel
theorem dX0_write_6 : decode cX0_write 6 = .ok (.arraylength, 1) := by decide +kernel
theorem dX0_write_7 : decode cX0_write 7 = .ok (.if_icmp .ge 7, 3) := by decide +kernel
theorem dX0_write_10 : decode cX0_write 10 = .ok (.aload_n 0, 1) := by decide +kernel
theorem dX0_write_11 : decode cX0_write 11 = .ok (.iload_n 1, 1) := by decide +kernel
theorem dX0_write_12 : decode cX0_write 12 = .ok (.iload_n 2, 1) := by decide +kernel
theorem dX0_write_13 : decode cX0_write 13 = .ok (.iastore, 1) := by decide +kernel
theorem dX0_write_14 : decode cX0_write 14 = .ok (.return_, 1) := by decide +kernel
theorem dX1_init_0 : decode cX1_init 0 = .ok (.aload_n 0, 1) := by decide +kernel
theorem dX1_init_1 : decode cX1_init 1 = .ok (.invokespecial 1, 3) := by decide +kernel
theorem dX1_init_4 : decode cX1_init 4 = .ok (.aload_n 0, 1) := by decide +kernel
theorem dX1_init_5 : decode cX1_init 5 = .ok (.bipush 30, 2) := by decide +kernel
theorem dX1_init_7 : decode cX1_init 7 = .ok (.putfield 7, 3) := by decide +kernel
theorem dX1_init_10 : decode cX1_init 10 = .ok (.aload_n 0, 1) := by decide +kernel
theorem dX1_init_11 : decode cX1_init 11 = .ok (.iconst 0, 1) := by decide +kernel
theorem dX1_init_12 : decode cX1_init 12 = .ok (.anewarray 13, 3) := by decide +kernel
theorem dX1_init_15 : decode cX1_init 15 = .ok (.putfield 15, 3) := by decide +kernel
theorem dX1_init_18 : decode cX1_init 18 = .ok (.return_, 1) := by decide +kernel
theorem dX1_words_0 : decode cX1_words 0 = .ok (.iconst 0, 1) := by decide +kernel
theorem dX1_words_1 : decode cX1_words 1 = .ok (.istore_n 1, 1) := by decide +kernel
theorem dX1_words_2 : decode cX1_words 2 = .ok (.aload_n 0, 1) := by decide +kernel
theorem dX1_words_3 : decode cX1_words 3 = .ok (.getfield 15, 3) := by decide +kernel
theorem dX1_words_6 : decode cX1_words 6 = .ok (.astore_n 2, 1) := by decide +kernel
theorem dX1_words_7 : decode cX1_words 7 = .ok (.aload_n 2, 1) := by decide +kernel
theorem dX1_words_8 : decode cX1_words 8 = .ok (.arraylength, 1) := by decide +kernel
theorem dX1_words_9 : decode cX1_words 9 = .ok (.istore_n 3, 1) := by decide +kernel
theorem dX1_words_10 : decode cX1_words 10 = .ok (.iconst 0, 1) := by decide +kernel
theorem dX1_words_11 : decode cX1_words 11 = .ok (.istore 4, 2) := by decide +kernel
theorem dX1_words_13 : decode cX1_words 13 = .ok (.iload 4, 2) := by decide +kernel
theorem dX1_words_15 : decode cX1_words 15 = .ok (.iload_n 3, 1) := by decide +kernel
theorem dX1_words_16 : decode cX1_words 16 = .ok (.if_icmp .ge 30, 3) := by decide +kernel
theorem dX1_words_19 : decode cX1_words 19 = .ok (.aload_n 2, 1) := by decide +kernel
theorem dX1_words_20 : decode cX1_words 20 = .ok (.iload 4, 2) := by decide +kernel
theorem dX1_words_22 : decode cX1_words 22 = .ok (.aaload, 1) := by decide +kernel
theorem dX1_words_23 : decode cX1_words 23 = .ok (.astore 5, 2) := by decide +kernel
theorem dX1_words_25 : decode cX1_words 25 = .ok (.iload_n 1, 1) := by decide +kernel
theorem dX1_words_26 : decode cX1_words 26 = .ok (.aload 5, 2) := by decide +kernel
theorem dX1_words_28 : decode cX1_words 28 = .ok (.iconst 1, 1) := by decide +kernel
theorem dX1_words_29 : decode cX1_words 29 = .ok (.iaload, 1) := by decide +kernel
theorem dX1_words_30 : decode cX1_words 30 = .ok (.ifCond .lt 7, 3) := by decide +kernel
