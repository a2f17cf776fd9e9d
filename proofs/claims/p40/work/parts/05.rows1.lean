theorem dX0_init_0 : decode cX0_init 0 = .ok (.aload_n 0, 1) := by decide +kernel
theorem dX0_init_1 : decode cX0_init 1 = .ok (.invokespecial 1, 3) := by decide +kernel
theorem dX0_init_4 : decode cX0_init 4 = .ok (.aload_n 0, 1) := by decide +kernel
theorem dX0_init_5 : decode cX0_init 5 = .ok (.bipush 24, 2) := by decide +kernel
theorem dX0_init_7 : decode cX0_init 7 = .ok (.newarray .int, 2) := by decide +kernel
theorem dX0_init_9 : decode cX0_init 9 = .ok (.putfield 9, 3) := by decide +kernel
theorem dX0_init_12 : decode cX0_init 12 = .ok (.aload_n 0, 1) := by decide +kernel
theorem dX0_init_13 : decode cX0_init 13 = .ok (.bipush 24, 2) := by decide +kernel
theorem dX0_init_15 : decode cX0_init 15 = .ok (.newarray .int, 2) := by decide +kernel
theorem dX0_init_17 : decode cX0_init 17 = .ok (.putfield 13, 3) := by decide +kernel
theorem dX0_init_20 : decode cX0_init 20 = .ok (.aload_n 0, 1) := by decide +kernel
theorem dX0_init_21 : decode cX0_init 21 = .ok (.bipush 24, 2) := by decide +kernel
theorem dX0_init_23 : decode cX0_init 23 = .ok (.newarray .int, 2) := by decide +kernel
theorem dX0_init_25 : decode cX0_init 25 = .ok (.putfield 16, 3) := by decide +kernel
theorem dX0_init_28 : decode cX0_init 28 = .ok (.aload_n 0, 1) := by decide +kernel
theorem dX0_init_29 : decode cX0_init 29 = .ok (.bipush 24, 2) := by decide +kernel
theorem dX0_init_31 : decode cX0_init 31 = .ok (.newarray .int, 2) := by decide +kernel
theorem dX0_init_33 : decode cX0_init 33 = .ok (.putfield 19, 3) := by decide +kernel
theorem dX0_init_36 : decode cX0_init 36 = .ok (.aload_n 0, 1) := by decide +kernel
theorem dX0_init_37 : decode cX0_init 37 = .ok (.bipush 24, 2) := by decide +kernel
theorem dX0_init_39 : decode cX0_init 39 = .ok (.newarray .int, 2) := by decide +kernel
theorem dX0_init_41 : decode cX0_init 41 = .ok (.putfield 22, 3) := by decide +kernel
theorem dX0_init_44 : decode cX0_init 44 = .ok (.aload_n 0, 1) := by decide +kernel
theorem dX0_init_45 : decode cX0_init 45 = .ok (.bipush 30, 2) := by decide +kernel
theorem dX0_init_47 : decode cX0_init 47 = .ok (.putfield 25, 3) := by decide +kernel
theorem dX0_init_50 : decode cX0_init 50 = .ok (.return_, 1) := by decide +kernel
set_option maxRecDepth 20000 in
theorem ggX0_say_X0_requireSpeaker : GoodIn wsX0_say wsX0_requireSpeaker := goodIn_ca (goodIn_r _ [4, 5, 6] (by decide +kernel) (by decide +kernel)) (goodIn_sub (fun _ h => List.mem_cons_of_mem _ (List.mem_append_left _ (List.mem_append_left _ (List.mem_append_right _ h)))) (by decide +kernel))
set_option maxRecDepth 20000 in
theorem gX0_say_X0_requireSpeaker : GoodIn wsX0_say (va_wsS RX0 29 yX0_requireSpeaker wsX0_requireSpeaker) := goodIn_app (goodIn_of _ (by decide +kernel)) ggX0_say_X0_requireSpeaker
set_option maxRecDepth 20000 in
theorem ggX0_say_X0_requireTopic : GoodIn wsX0_say wsX0_requireTopic := goodIn_ca (goodIn_r _ [9, 10, 11] (by decide +kernel) (by decide +kernel)) (goodIn_sub (fun _ h => List.mem_cons_of_mem _ (List.mem_append_left _ (List.mem_append_right _ h))) (by decide +kernel))
set_option maxRecDepth 20000 in
theorem gX0_say_X0_requireTopic : GoodIn wsX0_say (va_wsS RX0 33 yX0_requireTopic wsX0_requireTopic) := goodIn_app (goodIn_of _ (by decide +kernel)) ggX0_say_X0_requireTopic
set_option maxRecDepth 20000 in
theorem ggX0_say_X0_requireRoom : GoodIn wsX0_say wsX0_requireRoom := goodIn_ca (goodIn_r _ [15, 16, 17, 18, 92, 93, 94, 95, 96, 97, 98, 99, 100, 101] (by decide +kernel) (by decide +kernel)) (goodIn_sub (fun _ h => List.mem_cons_of_mem _ (List.mem_append_right _ h)) (by decide +kernel))
set_option maxRecDepth 20000 in
theorem gX0_say_X0_requireRoom : GoodIn wsX0_say (wsV RX0 36 RX0 yX0_requireRoom wsX0_requireRoom) := goodIn_app (goodIn_of _ (by decide +kernel)) ggX0_say_X0_requireRoom
set_option maxRecDepth 20000 in
theorem ggX0_say_X0_append : GoodIn wsX0_say wsX0_append := goodIn_r _ [22, 18, 23, 24, 25, 3, 26, 27, 28, 29, 30, 31, 32, 33, 34, 35, 36, 37, 38, 39, 40, 41, 42, 43, 44, 45, 46, 47, 48, 49, 50, 51, 52, 53, 54, 55, 56, 57, 58, 59, 60, 61, 62, 63, 64, 65, 66, 67, 68, 69, 70, 71, 72, 73, 74, 75, 76, 77, 78, 79, 80, 81, 82, 83, 84, 85, 86, 87, 88, 89, 90, 91, 92, 93, 94, 95, 96, 97, 98, 99, 100, 101] (by decide +kernel) (by decide +kernel)
set_option maxRecDepth 20000 in
theorem gX0_say_X0_append : GoodIn wsX0_say (wsV RX0 39 RX0 yX0_append wsX0_append) := goodIn_app (goodIn_of _ (by decide +kernel)) ggX0_say_X0_append
theorem dX0_say_0 : decode cX0_say 0 = .ok (.iload_n 1, 1) := by decide +kernel
theorem dX0_say_1 : decode cX0_say 1 = .ok (.invokestatic 29, 3) := by decide +kernel
theorem dX0_say_4 : decode cX0_say 4 = .ok (.iload_n 2, 1) := by decide +kernel
theorem dX0_say_5 : decode cX0_say 5 = .ok (.invokestatic 33, 3) := by decide +kernel
theorem dX0_say_8 : decode cX0_say 8 = .ok (.aload_n 0, 1) := by decide +kernel
theorem dX0_say_9 : decode cX0_say 9 = .ok (.invokevirtual 36, 3) := by decide +kernel
theorem dX0_say_12 : decode cX0_say 12 = .ok (.aload_n 0, 1) := by decide +kernel
theorem dX0_say_13 : decode cX0_say 13 = .ok (.iload_n 1, 1) := by decide +kernel
theorem dX0_say_14 : decode cX0_say 14 = .ok (.iload_n 2, 1) := by decide +kernel
theorem dX0_say_15 : decode cX0_say 15 = .ok (.invokevirtual 39, 3) := by decide +kernel
theorem dX0_say_18 : decode cX0_say 18 = .ok (.ireturn, 1) := by decide +kernel
set_option maxRecDepth 20000 in
theorem ggX0_cough_X0_requireSpeaker : GoodIn wsX0_cough wsX0_requireSpeaker := goodIn_ca (goodIn_r _ [4, 5, 6] (by decide +kernel) (by decide +kernel)) (goodIn_sub (fun _ h => List.mem_cons_of_mem _ (List.mem_append_left _ (List.mem_append_right _ h))) (by decide +kernel))
set_option maxRecDepth 20000 in
theorem gX0_cough_X0_requireSpeaker : GoodIn wsX0_cough (va_wsS RX0 29 yX0_requireSpeaker wsX0_requireSpeaker) := goodIn_app (goodIn_of _ (by decide +kernel)) ggX0_cough_X0_requireSpeaker
set_option maxRecDepth 20000 in
theorem ggX0_cough_X0_requireRoom : GoodIn wsX0_cough wsX0_requireRoom := goodIn_ca (goodIn_r _ [10, 11, 12, 13, 87, 88, 89, 90, 91, 92, 93, 94, 95, 96] (by decide +kernel) (by decide +kernel)) (goodIn_sub (fun _ h => List.mem_cons_of_mem _ (List.mem_append_right _ h)) (by decide +kernel))
set_option maxRecDepth 20000 in
theorem gX0_cough_X0_requireRoom : GoodIn wsX0_cough (wsV RX0 36 RX0 yX0_requireRoom wsX0_requireRoom) := goodIn_app (goodIn_of _ (by decide +kernel)) ggX0_cough_X0_requireRoom
set_option maxRecDepth 20000 in
theorem ggX0_cough_X0_append : GoodIn wsX0_cough wsX0_append := goodIn_r _ [17, 13, 18, 19, 20, 3, 21, 22, 23, 24, 25, 26, 27, 28, 29, 30, 31, 32, 33, 34, 35, 36, 37, 38, 39, 40, 41, 42, 43, 44, 45, 46, 47, 48, 49, 50, 51, 52, 53, 54, 55, 56, 57, 58, 59, 60, 61, 62, 63, 64, 65, 66, 67, 68, 69, 70, 71, 72, 73, 74, 75, 76, 77, 78, 79, 80, 81, 82, 83, 84, 85, 86, 87, 88, 89, 90, 91, 92, 93, 94, 95, 96] (by decide +kernel) (by decide +kernel)
set_option maxRecDepth 20000 in
theorem gX0_cough_X0_append : GoodIn wsX0_cough (wsV RX0 39 RX0 yX0_append wsX0_append) := goodIn_app (goodIn_of _ (by decide +kernel)) ggX0_cough_X0_append
theorem dX0_cough_0 : decode cX0_cough 0 = .ok (.iload_n 1, 1) := by decide +kernel
theorem dX0_cough_1 : decode cX0_cough 1 = .ok (.invokestatic 29, 3) := by decide +kernel
theorem dX0_cough_4 : decode cX0_cough 4 = .ok (.aload_n 0, 1) := by decide +kernel
theorem dX0_cough_5 : decode cX0_cough 5 = .ok (.invokevirtual 36, 3) := by decide +kernel
theorem dX0_cough_8 : decode cX0_cough 8 = .ok (.aload_n 0, 1) := by decide +kernel
theorem dX0_cough_9 : decode cX0_cough 9 = .ok (.iload_n 1, 1) := by decide +kernel
theorem dX0_cough_10 : decode cX0_cough 10 = .ok (.iconst (-1), 1) := by decide +kernel
theorem dX0_cough_11 : decode cX0_cough 11 = .ok (.invokevirtual 39, 3) := by decide +kernel
theorem dX0_cough_14 : decode cX0_cough 14 = .ok (.ireturn, 1) := by decide +kernel
set_option maxRecDepth 20000 in
theorem ggX0_removeCough_X0_requirePlace : GoodIn wsX0_removeCough wsX0_requirePlace := goodIn_ca (goodIn_r _ [8, 9, 10, 3, 94, 95, 96, 97, 98, 99, 100, 101, 102, 103] (by decide +kernel) (by decide +kernel)) (goodIn_sub (fun _ h => List.mem_cons_of_mem _ (List.mem_append_right _ h)) (by decide +kernel))
set_option maxRecDepth 20000 in
theorem gX0_removeCough_X0_requirePlace : GoodIn wsX0_removeCough (wsV RX0 43 RX0 yX0_requirePlace wsX0_requirePlace) := goodIn_app (goodIn_of _ (by decide +kernel)) ggX0_removeCough_X0_requirePlace
set_option maxRecDepth 20000 in
theorem ggX0_removeCough_X0_coughStandsAt : GoodIn wsX0_removeCough wsX0_coughStandsAt := goodIn_r _ [14, 15, 16, 17, 7, 18, 94, 95, 96, 97, 98, 99, 100, 101, 102, 103] (by decide +kernel) (by decide +kernel)
set_option maxRecDepth 20000 in
theorem gX0_removeCough_X0_coughStandsAt : GoodIn wsX0_removeCough (wsV RX0 46 RX0 yX0_coughStandsAt wsX0_coughStandsAt) := goodIn_app (goodIn_of _ (by decide +kernel)) ggX0_removeCough_X0_coughStandsAt
set_option maxRecDepth 20000 in
theorem ggX0_removeCough_X0_requirePatience : GoodIn wsX0_removeCough wsX0_requirePatience := goodIn_ca (goodIn_r _ [22, 1, 2, 23, 94, 95, 96, 97, 98, 99, 100, 101, 102, 103] (by decide +kernel) (by decide +kernel)) (goodIn_sub (fun _ h => List.mem_cons_of_mem _ (List.mem_append_left _ (List.mem_append_right _ h))) (by decide +kernel))
set_option maxRecDepth 20000 in
theorem gX0_removeCough_X0_requirePatience : GoodIn wsX0_removeCough (wsV RX0 57 RX0 yX0_requirePatience wsX0_requirePatience) := goodIn_app (goodIn_of _ (by decide +kernel)) ggX0_removeCough_X0_requirePatience
set_option maxRecDepth 20000 in
theorem ggX0_removeCough_X0_pay : GoodIn wsX0_removeCough wsX0_pay := goodIn_r _ [27, 23, 28, 94, 95, 96, 97, 98, 99, 100, 101, 102, 103] (by decide +kernel) (by decide +kernel)
set_option maxRecDepth 20000 in
theorem gX0_removeCough_X0_pay : GoodIn wsX0_removeCough (wsV RX0 60 RX0 yX0_pay wsX0_pay) := goodIn_app (goodIn_of _ (by decide +kernel)) ggX0_removeCough_X0_pay
set_option maxRecDepth 20000 in
theorem ggX0_removeCough_X0_moveUpBehind : GoodIn wsX0_removeCough wsX0_moveUpBehind := goodIn_r _ [32, 3, 33, 34, 35, 7, 36, 37, 15, 38, 16, 17, 18, 39, 40, 41, 94, 95, 96, 97, 98, 99, 100, 101, 102, 103] (by decide +kernel) (by decide +kernel)
set_option maxRecDepth 20000 in
theorem gX0_removeCough_X0_moveUpBehind : GoodIn wsX0_removeCough (wsV RX0 63 RX0 yX0_moveUpBehind wsX0_moveUpBehind) := goodIn_app (goodIn_of _ (by decide +kernel)) ggX0_removeCough_X0_moveUpBehind
set_option maxRecDepth 20000 in
theorem ggX0_removeCough_X0_recount : GoodIn wsX0_removeCough wsX0_recount := goodIn_r _ [45, 46, 3, 47, 48, 49, 11, 12, 13, 7, 14, 15, 16, 17, 18, 39, 40, 41, 50, 51, 52, 53, 54, 55, 56, 57, 38, 58, 59, 60, 61, 62, 63, 64, 65, 66, 67, 68, 69, 70, 71, 72, 73, 74, 75, 76, 77, 78, 79, 80, 81, 82, 83, 84, 85, 86, 87, 37, 88, 89, 90, 91, 92, 93, 94, 95, 96, 97, 98, 99, 100, 101, 102, 103] (by decide +kernel) (by decide +kernel)
set_option maxRecDepth 20000 in
theorem gX0_removeCough_X0_recount : GoodIn wsX0_removeCough (wsV RX0 66 RX0 yX0_recount wsX0_recount) := goodIn_app (goodIn_of _ (by decide +kernel)) ggX0_removeCough_X0_recount
theorem dX0_removeCough_0 : decode cX0_removeCough 0 = .ok (.aload_n 0, 1) := by decide +kernel
theorem dX0_removeCough_1 : decode cX0_removeCough 1 = .ok (.iload_n 1, 1) := by decide +kernel
theorem dX0_removeCough_2 : decode cX0_removeCough 2 = .ok (.invokevirtual 43, 3) := by decide +kernel
theorem dX0_removeCough_5 : decode cX0_removeCough 5 = .ok (.aload_n 0, 1) := by decide +kernel
theorem dX0_removeCough_6 : decode cX0_removeCough 6 = .ok (.iload_n 1, 1) := by decide +kernel
theorem dX0_removeCough_7 : decode cX0_removeCough 7 = .ok (.invokevirtual 46, 3) := by decide +kernel
theorem dX0_removeCough_10 : decode cX0_removeCough 10 = .ok (.ifCond .ne 13, 3) := by decide +kernel
theorem dX0_removeCough_13 : decode cX0_removeCough 13 = .ok (.new 50, 3) := by decide +kernel
theorem dX0_removeCough_16 : decode cX0_removeCough 16 = .ok (.dup, 1) := by decide +kernel
theorem dX0_removeCough_17 : decode cX0_removeCough 17 = .ok (.ldc 52, 2) := by decide +kernel
theorem dX0_removeCough_19 : decode cX0_removeCough 19 = .ok (.invokespecial 54, 3) := by decide +kernel
theorem dX0_removeCough_22 : decode cX0_removeCough 22 = .ok (.athrow, 1) := by decide +kernel
theorem dX0_removeCough_23 : decode cX0_removeCough 23 = .ok (.aload_n 0, 1) := by decide +kernel
theorem dX0_removeCough_24 : decode cX0_removeCough 24 = .ok (.iconst 1, 1) := by decide +kernel
theorem dX0_removeCough_25 : decode cX0_removeCough 25 = .ok (.invokevirtual 57, 3) := by decide +kernel
theorem dX0_removeCough_28 : decode cX0_removeCough 28 = .ok (.aload_n 0, 1) := by decide +kernel
theorem dX0_removeCough_29 : decode cX0_removeCough 29 = .ok (.iconst 1, 1) := by decide +kernel
theorem dX0_removeCough_30 : decode cX0_removeCough 30 = .ok (.invokevirtual 60, 3) := by decide +kernel
theorem dX0_removeCough_33 : decode cX0_removeCough 33 = .ok (.aload_n 0, 1) := by decide +kernel
theorem dX0_removeCough_34 : decode cX0_removeCough 34 = .ok (.iload_n 1, 1) := by decide +kernel
theorem dX0_removeCough_35 : decode cX0_removeCough 35 = .ok (.invokevirtual 63, 3) := by decide +kernel
theorem dX0_removeCough_38 : decode cX0_removeCough 38 = .ok (.aload_n 0, 1) := by decide +kernel
theorem dX0_removeCough_39 : decode cX0_removeCough 39 = .ok (.invokevirtual 66, 3) := by decide +kernel
theorem dX0_removeCough_42 : decode cX0_removeCough 42 = .ok (.aload_n 0, 1) := by decide +kernel
theorem dX0_removeCough_43 : decode cX0_removeCough 43 = .ok (.getfield 69, 3) := by decide +kernel
theorem dX0_removeCough_46 : decode cX0_removeCough 46 = .ok (.ireturn, 1) := by decide +kernel
set_option maxRecDepth 20000 in
theorem ggX0_tie_X0_requireGap : GoodIn wsX0_tie wsX0_requireGap := goodIn_ca (goodIn_r _ [8, 9, 10, 11, 12, 13, 7, 14, 15, 94, 95, 96, 97, 98, 99, 100, 101, 102, 103] (by decide +kernel) (by decide +kernel)) (goodIn_sub (fun _ h => List.mem_cons_of_mem _ (List.mem_append_left _ (List.mem_append_right _ h))) (by decide +kernel))
set_option maxRecDepth 20000 in
theorem gX0_tie_X0_requireGap : GoodIn wsX0_tie (wsV RX0 72 RX0 yX0_requireGap wsX0_requireGap) := goodIn_app (goodIn_of _ (by decide +kernel)) ggX0_tie_X0_requireGap
set_option maxRecDepth 20000 in
theorem ggX0_tie_X0_requireUntied : GoodIn wsX0_tie wsX0_requireUntied := goodIn_ca (goodIn_r _ [19, 20, 21, 22, 23, 24, 7, 25, 1, 2, 26, 27, 28, 94, 95, 96, 97, 98, 99, 100, 101, 102, 103] (by decide +kernel) (by decide +kernel)) (goodIn_sub (fun _ h => List.mem_cons_of_mem _ (List.mem_append_right _ h)) (by decide +kernel))
set_option maxRecDepth 20000 in
theorem gX0_tie_X0_requireUntied : GoodIn wsX0_tie (wsV RX0 75 RX0 yX0_requireUntied wsX0_requireUntied) := goodIn_app (goodIn_of _ (by decide +kernel)) ggX0_tie_X0_requireUntied
set_option maxRecDepth 20000 in
theorem ggX0_tie_X0_requirePatience : GoodIn wsX0_tie wsX0_requirePatience := goodIn_ca (goodIn_r _ [32, 20, 21, 33, 94, 95, 96, 97, 98, 99, 100, 101, 102, 103] (by decide +kernel) (by decide +kernel)) (goodIn_sub (fun _ h => List.mem_cons_of_mem _ (List.mem_append_right _ h)) (by decide +kernel))
set_option maxRecDepth 20000 in
theorem gX0_tie_X0_requirePatience : GoodIn wsX0_tie (wsV RX0 57 RX0 yX0_requirePatience wsX0_requirePatience) := goodIn_app (goodIn_of _ (by decide +kernel)) ggX0_tie_X0_requirePatience
set_option maxRecDepth 20000 in
theorem ggX0_tie_X0_pay : GoodIn wsX0_tie wsX0_pay := goodIn_r _ [37, 33, 38, 94, 95, 96, 97, 98, 99, 100, 101, 102, 103] (by decide +kernel) (by decide +kernel)
set_option maxRecDepth 20000 in
theorem gX0_tie_X0_pay : GoodIn wsX0_tie (wsV RX0 60 RX0 yX0_pay wsX0_pay) := goodIn_app (goodIn_of _ (by decide +kernel)) ggX0_tie_X0_pay
set_option maxRecDepth 20000 in
theorem ggX0_tie_X0_read : GoodIn wsX0_tie wsX0_read := goodIn_r _ [28] (by decide +kernel) (by decide +kernel)
set_option maxRecDepth 20000 in
theorem gX0_tie_X0_read : GoodIn wsX0_tie (va_wsS RX0 78 yX0_read wsX0_read) := goodIn_app (goodIn_of _ (by decide +kernel)) ggX0_tie_X0_read
set_option maxRecDepth 20000 in
theorem ggX0_tie_X0_write : GoodIn wsX0_tie wsX0_write := goodIn_r _ [41] (by decide +kernel) (by decide +kernel)
set_option maxRecDepth 20000 in
theorem gX0_tie_X0_write : GoodIn wsX0_tie (va_wsS RX0 82 yX0_write wsX0_write) := goodIn_app (goodIn_of _ (by decide +kernel)) ggX0_tie_X0_write
set_option maxRecDepth 20000 in
theorem ggX0_tie_X0_recount : GoodIn wsX0_tie wsX0_recount := goodIn_r _ [45, 15, 46, 2, 3, 47, 48, 49, 50, 7, 51, 52, 26, 27, 28, 39, 40, 41, 53, 54, 55, 56, 22, 23, 24, 25, 1, 57, 58, 59, 60, 61, 62, 63, 64, 65, 66, 67, 68, 69, 70, 71, 72, 73, 74, 75, 76, 77, 78, 79, 80, 81, 82, 83, 84, 85, 86, 87, 88, 89, 90, 91, 92, 93, 94, 95, 96, 97, 98, 99, 100, 101, 102, 103] (by decide +kernel) (by decide +kernel)
set_option maxRecDepth 20000 in
theorem gX0_tie_X0_recount : GoodIn wsX0_tie (wsV RX0 66 RX0 yX0_recount wsX0_recount) := goodIn_app (goodIn_of _ (by decide +kernel)) ggX0_tie_X0_recount
theorem dX0_tie_0 : decode cX0_tie 0 = .ok (.aload_n 0, 1) := by decide +kernel
theorem dX0_tie_1 : decode cX0_tie 1 = .ok (.iload_n 1, 1) := by decide +kernel
theorem dX0_tie_2 : decode cX0_tie 2 = .ok (.invokevirtual 72, 3) := by decide +kernel
theorem dX0_tie_5 : decode cX0_tie 5 = .ok (.aload_n 0, 1) := by decide +kernel
theorem dX0_tie_6 : decode cX0_tie 6 = .ok (.iload_n 1, 1) := by decide +kernel
theorem dX0_tie_7 : decode cX0_tie 7 = .ok (.invokevirtual 75, 3) := by decide +kernel
theorem dX0_tie_10 : decode cX0_tie 10 = .ok (.aload_n 0, 1) := by decide +kernel
theorem dX0_tie_11 : decode cX0_tie 11 = .ok (.iconst 3, 1) := by decide +kernel
theorem dX0_tie_12 : decode cX0_tie 12 = .ok (.invokevirtual 57, 3) := by decide +kernel
theorem dX0_tie_15 : decode cX0_tie 15 = .ok (.aload_n 0, 1) := by decide +kernel
theorem dX0_tie_16 : decode cX0_tie 16 = .ok (.iconst 3, 1) := by decide +kernel
theorem dX0_tie_17 : decode cX0_tie 17 = .ok (.invokevirtual 60, 3) := by decide +kernel
theorem dX0_tie_20 : decode cX0_tie 20 = .ok (.aload_n 0, 1) := by decide +kernel
theorem dX0_tie_21 : decode cX0_tie 21 = .ok (.getfield 16, 3) := by decide +kernel
theorem dX0_tie_24 : decode cX0_tie 24 = .ok (.aload_n 0, 1) := by decide +kernel
theorem dX0_tie_25 : decode cX0_tie 25 = .ok (.getfield 19, 3) := by decide +kernel
theorem dX0_tie_28 : decode cX0_tie 28 = .ok (.iload_n 1, 1) := by decide +kernel
theorem dX0_tie_29 : decode cX0_tie 29 = .ok (.invokestatic 78, 3) := by decide +kernel
theorem dX0_tie_32 : decode cX0_tie 32 = .ok (.iconst 1, 1) := by decide +kernel
theorem dX0_tie_33 : decode cX0_tie 33 = .ok (.invokestatic 82, 3) := by decide +kernel
theorem dX0_tie_36 : decode cX0_tie 36 = .ok (.aload_n 0, 1) := by decide +kernel
theorem dX0_tie_37 : decode cX0_tie 37 = .ok (.invokevirtual 66, 3) := by decide +kernel
theorem dX0_tie_40 : decode cX0_tie 40 = .ok (.aload_n 0, 1) := by decide +kernel
theorem dX0_tie_41 : decode cX0_tie 41 = .ok (.getfield 86, 3) := by decide +kernel
theorem dX0_tie_44 : decode cX0_tie 44 = .ok (.ireturn, 1) := by decide +kernel
set_option maxRecDepth 20000 in
theorem ggX0_splice_X0_requireGap : GoodIn wsX0_splice wsX0_requireGap := goodIn_ca (goodIn_r _ [6, 7, 8, 9, 10, 11, 5, 12, 13, 117, 118, 119, 120, 121, 122, 123, 124, 125, 126] (by decide +kernel) (by decide +kernel)) (goodIn_sub (fun _ h => List.mem_cons_of_mem _ (List.mem_append_left _ (List.mem_append_right _ h))) (by decide +kernel))
set_option maxRecDepth 20000 in
theorem gX0_splice_X0_requireGap : GoodIn wsX0_splice (wsV RX0 72 RX0 yX0_requireGap wsX0_requireGap) := goodIn_app (goodIn_of _ (by decide +kernel)) ggX0_splice_X0_requireGap
set_option maxRecDepth 20000 in
theorem ggX0_splice_X0_requireUntied : GoodIn wsX0_splice wsX0_requireUntied := goodIn_ca (goodIn_r _ [17, 18, 19, 20, 21, 22, 5, 23, 24, 1, 25, 26, 27, 117, 118, 119, 120, 121, 122, 123, 124, 125, 126] (by decide +kernel) (by decide +kernel)) (goodIn_sub (fun _ h => List.mem_cons_of_mem _ (List.mem_append_right _ h)) (by decide +kernel))
set_option maxRecDepth 20000 in
theorem gX0_splice_X0_requireUntied : GoodIn wsX0_splice (wsV RX0 75 RX0 yX0_requireUntied wsX0_requireUntied) := goodIn_app (goodIn_of _ (by decide +kernel)) ggX0_splice_X0_requireUntied
set_option maxRecDepth 20000 in
theorem ggX0_splice_X0_requireRoom : GoodIn wsX0_splice wsX0_requireRoom := goodIn_ca (goodIn_r _ [31, 18, 19, 32, 117, 118, 119, 120, 121, 122, 123, 124, 125, 126] (by decide +kernel) (by decide +kernel)) (goodIn_sub (fun _ h => List.mem_cons_of_mem _ (List.mem_append_right _ h)) (by decide +kernel))
set_option maxRecDepth 20000 in
theorem gX0_splice_X0_requireRoom : GoodIn wsX0_splice (wsV RX0 36 RX0 yX0_requireRoom wsX0_requireRoom) := goodIn_app (goodIn_of _ (by decide +kernel)) ggX0_splice_X0_requireRoom
set_option maxRecDepth 20000 in
theorem ggX0_splice_X0_requirePatience : GoodIn wsX0_splice wsX0_requirePatience := goodIn_ca (goodIn_r _ [36, 18, 19, 37, 117, 118, 119, 120, 121, 122, 123, 124, 125, 126] (by decide +kernel) (by decide +kernel)) (goodIn_sub (fun _ h => List.mem_cons_of_mem _ (List.mem_append_right _ h)) (by decide +kernel))
set_option maxRecDepth 20000 in
theorem gX0_splice_X0_requirePatience : GoodIn wsX0_splice (wsV RX0 57 RX0 yX0_requirePatience wsX0_requirePatience) := goodIn_app (goodIn_of _ (by decide +kernel)) ggX0_splice_X0_requirePatience
set_option maxRecDepth 20000 in
theorem ggX0_splice_X0_pay : GoodIn wsX0_splice wsX0_pay := goodIn_r _ [41, 37, 42, 117, 118, 119, 120, 121, 122, 123, 124, 125, 126] (by decide +kernel) (by decide +kernel)
set_option maxRecDepth 20000 in
theorem gX0_splice_X0_pay : GoodIn wsX0_splice (wsV RX0 60 RX0 yX0_pay wsX0_pay) := goodIn_app (goodIn_of _ (by decide +kernel)) ggX0_splice_X0_pay
set_option maxRecDepth 20000 in
theorem ggX0_splice_X0_speakerOfWord : GoodIn wsX0_splice wsX0_speakerOfWord := goodIn_r _ [46, 47, 1, 25, 26, 5, 27, 117, 118, 119, 120, 121, 122, 123, 124, 125, 126] (by decide +kernel) (by decide +kernel)
set_option maxRecDepth 20000 in
theorem gX0_splice_X0_speakerOfWord : GoodIn wsX0_splice (wsV RX0 89 RX0 yX0_speakerOfWord wsX0_speakerOfWord) := goodIn_app (goodIn_of _ (by decide +kernel)) ggX0_splice_X0_speakerOfWord
set_option maxRecDepth 20000 in
theorem ggX0_splice_X0_topicOfWord : GoodIn wsX0_splice wsX0_topicOfWord := goodIn_r _ [51, 52, 1, 25, 26, 5, 27, 117, 118, 119, 120, 121, 122, 123, 124, 125, 126] (by decide +kernel) (by decide +kernel)
set_option maxRecDepth 20000 in
theorem gX0_splice_X0_topicOfWord : GoodIn wsX0_splice (wsV RX0 93 RX0 yX0_topicOfWord wsX0_topicOfWord) := goodIn_app (goodIn_of _ (by decide +kernel)) ggX0_splice_X0_topicOfWord
set_option maxRecDepth 20000 in
theorem ggX0_splice_X0_topicBetween : GoodIn wsX0_splice wsX0_topicBetween := goodIn_r _ [55, 56, 57, 5, 58, 59, 60, 61, 62, 63, 64, 65, 66, 67, 68, 69] (by decide +kernel) (by decide +kernel)
set_option maxRecDepth 20000 in
theorem gX0_splice_X0_topicBetween : GoodIn wsX0_splice (va_wsS RX0 96 yX0_topicBetween wsX0_topicBetween) := goodIn_app (goodIn_of _ (by decide +kernel)) ggX0_splice_X0_topicBetween
set_option maxRecDepth 20000 in
theorem ggX0_splice_X0_read : GoodIn wsX0_splice wsX0_read := goodIn_r _ [27] (by decide +kernel) (by decide +kernel)
set_option maxRecDepth 20000 in
theorem gX0_splice_X0_read : GoodIn wsX0_splice (va_wsS RX0 78 yX0_read wsX0_read) := goodIn_app (goodIn_of _ (by decide +kernel)) ggX0_splice_X0_read
set_option maxRecDepth 20000 in
theorem ggX0_splice_X0_makeRoomAt : GoodIn wsX0_splice wsX0_makeRoomAt := goodIn_r _ [73, 32, 74, 75, 76, 5, 77, 47, 52, 24, 25, 26, 27, 78, 79, 80, 117, 118, 119, 120, 121, 122, 123, 124, 125, 126] (by decide +kernel) (by decide +kernel)
set_option maxRecDepth 20000 in
theorem gX0_splice_X0_makeRoomAt : GoodIn wsX0_splice (wsV RX0 99 RX0 yX0_makeRoomAt wsX0_makeRoomAt) := goodIn_app (goodIn_of _ (by decide +kernel)) ggX0_splice_X0_makeRoomAt
set_option maxRecDepth 20000 in
theorem ggX0_splice_X0_put : GoodIn wsX0_splice wsX0_put := goodIn_r _ [84, 47, 52, 24, 78, 79, 5, 80, 117, 118, 119, 120, 121, 122, 123, 124, 125, 126] (by decide +kernel) (by decide +kernel)
set_option maxRecDepth 20000 in
theorem gX0_splice_X0_put : GoodIn wsX0_splice (wsV RX0 102 RX0 yX0_put wsX0_put) := goodIn_app (goodIn_of _ (by decide +kernel)) ggX0_splice_X0_put
set_option maxRecDepth 20000 in
theorem ggX0_splice_X0_recount : GoodIn wsX0_splice wsX0_recount := goodIn_r _ [88, 13, 32, 1, 89, 90, 91, 92, 93, 5, 94, 52, 25, 26, 27, 78, 79, 80, 95, 96, 97, 98, 20, 21, 22, 23, 24, 99, 100, 101, 102, 48, 49, 50, 51, 56, 57, 58, 59, 60, 61, 62, 63, 64, 65, 103, 104, 105, 106, 107, 108, 109, 110, 43, 44, 45, 46, 47, 111, 112, 113, 114, 115, 116, 117, 118, 119, 120, 121, 122, 123, 124, 125, 126] (by decide +kernel) (by decide +kernel)
set_option maxRecDepth 20000 in
theorem gX0_splice_X0_recount : GoodIn wsX0_splice (wsV RX0 66 RX0 yX0_recount wsX0_recount) := goodIn_app (goodIn_of _ (by decide +kernel)) ggX0_splice_X0_recount
theorem dX0_splice_0 : decode cX0_splice 0 = .ok (.aload_n 0, 1) := by decide +kernel
theorem dX0_splice_1 : decode cX0_splice 1 = .ok (.iload_n 1, 1) := by decide +kernel
theorem dX0_splice_2 : decode cX0_splice 2 = .ok (.invokevirtual 72, 3) := by decide +kernel
theorem dX0_splice_5 : decode cX0_splice 5 = .ok (.aload_n 0, 1) := by decide +kernel
theorem dX0_splice_6 : decode cX0_splice 6 = .ok (.iload_n 1, 1) := by decide +kernel
theorem dX0_splice_7 : decode cX0_splice 7 = .ok (.invokevirtual 75, 3) := by decide +kernel
theorem dX0_splice_10 : decode cX0_splice 10 = .ok (.aload_n 0, 1) := by decide +kernel
theorem dX0_splice_11 : decode cX0_splice 11 = .ok (.invokevirtual 36, 3) := by decide +kernel
theorem dX0_splice_14 : decode cX0_splice 14 = .ok (.aload_n 0, 1) := by decide +kernel
theorem dX0_splice_15 : decode cX0_splice 15 = .ok (.iconst 2, 1) := by decide +kernel
theorem dX0_splice_16 : decode cX0_splice 16 = .ok (.invokevirtual 57, 3) := by decide +kernel
theorem dX0_splice_19 : decode cX0_splice 19 = .ok (.aload_n 0, 1) := by decide +kernel
theorem dX0_splice_20 : decode cX0_splice 20 = .ok (.iconst 2, 1) := by decide +kernel
theorem dX0_splice_21 : decode cX0_splice 21 = .ok (.invokevirtual 60, 3) := by decide +kernel
theorem dX0_splice_24 : decode cX0_splice 24 = .ok (.aload_n 0, 1) := by decide +kernel
theorem dX0_splice_25 : decode cX0_splice 25 = .ok (.iload_n 1, 1) := by decide +kernel
theorem dX0_splice_26 : decode cX0_splice 26 = .ok (.invokevirtual 89, 3) := by decide +kernel
theorem dX0_splice_29 : decode cX0_splice 29 = .ok (.istore_n 2, 1) := by decide +kernel
theorem dX0_splice_30 : decode cX0_splice 30 = .ok (.aload_n 0, 1) := by decide +kernel
theorem dX0_splice_31 : decode cX0_splice 31 = .ok (.iload_n 1, 1) := by decide +kernel
theorem dX0_splice_32 : decode cX0_splice 32 = .ok (.invokevirtual 93, 3) := by decide +kernel
theorem dX0_splice_35 : decode cX0_splice 35 = .ok (.aload_n 0, 1) := by decide +kernel
theorem dX0_splice_36 : decode cX0_splice 36 = .ok (.iload_n 1, 1) := by decide +kernel
theorem dX0_splice_37 : decode cX0_splice 37 = .ok (.iconst 1, 1) := by decide +kernel
theorem dX0_splice_38 : decode cX0_splice 38 = .ok (.iadd, 1) := by decide +kernel
theorem dX0_splice_39 : decode cX0_splice 39 = .ok (.invokevirtual 93, 3) := by decide +kernel
theorem dX0_splice_42 : decode cX0_splice 42 = .ok (.invokestatic 96, 3) := by decide +kernel
theorem dX0_splice_45 : decode cX0_splice 45 = .ok (.istore_n 3, 1) := by decide +kernel
theorem dX0_splice_46 : decode cX0_splice 46 = .ok (.aload_n 0, 1) := by decide +kernel
theorem dX0_splice_47 : decode cX0_splice 47 = .ok (.getfield 19, 3) := by decide +kernel
theorem dX0_splice_50 : decode cX0_splice 50 = .ok (.iload_n 1, 1) := by decide +kernel
theorem dX0_splice_51 : decode cX0_splice 51 = .ok (.invokestatic 78, 3) := by decide +kernel
theorem dX0_splice_54 : decode cX0_splice 54 = .ok (.iconst 1, 1) := by decide +kernel
theorem dX0_splice_55 : decode cX0_splice 55 = .ok (.iadd, 1) := by decide +kernel
theorem dX0_splice_56 : decode cX0_splice 56 = .ok (.istore 4, 2) := by decide +kernel
theorem dX0_splice_58 : decode cX0_splice 58 = .ok (.aload_n 0, 1) := by decide +kernel
theorem dX0_splice_59 : decode cX0_splice 59 = .ok (.iload 4, 2) := by decide +kernel
theorem dX0_splice_61 : decode cX0_splice 61 = .ok (.invokevirtual 99, 3) := by decide +kernel
theorem dX0_splice_64 : decode cX0_splice 64 = .ok (.aload_n 0, 1) := by decide +kernel
theorem dX0_splice_65 : decode cX0_splice 65 = .ok (.iload 4, 2) := by decide +kernel
theorem dX0_splice_67 : decode cX0_splice 67 = .ok (.iload_n 2, 1) := by decide +kernel
theorem dX0_splice_68 : decode cX0_splice 68 = .ok (.iload_n 3, 1) := by decide +kernel
theorem dX0_splice_69 : decode cX0_splice 69 = .ok (.invokevirtual 102, 3) := by decide +kernel
theorem dX0_splice_72 : decode cX0_splice 72 = .ok (.aload_n 0, 1) := by decide +kernel
theorem dX0_splice_73 : decode cX0_splice 73 = .ok (.invokevirtual 66, 3) := by decide +kernel
theorem dX0_splice_76 : decode cX0_splice 76 = .ok (.iload_n 3, 1) := by decide +kernel
theorem dX0_splice_77 : decode cX0_splice 77 = .ok (.ireturn, 1) := by decide +kernel
theorem dX0_rest_0 : decode cX0_rest 0 = .ok (.iload_n 1, 1) := by decide +kernel
theorem dX0_rest_1 : decode cX0_rest 1 = .ok (.iconst 1, 1) := by decide +kernel
theorem dX0_rest_2 : decode cX0_rest 2 = .ok (.if_icmp .lt 9, 3) := by decide +kernel
theorem dX0_rest_5 : decode cX0_rest 5 = .ok (.iload_n 1, 1) := by decide +kernel
theorem dX0_rest_6 : decode cX0_rest 6 = .ok (.bipush 60, 2) := by decide +kernel
theorem dX0_rest_8 : decode cX0_rest 8 = .ok (.if_icmp .le 13, 3) := by decide +kernel
theorem dX0_rest_11 : decode cX0_rest 11 = .ok (.new 106, 3) := by decide +kernel
theorem dX0_rest_14 : decode cX0_rest 14 = .ok (.dup, 1) := by decide +kernel
theorem dX0_rest_15 : decode cX0_rest 15 = .ok (.ldc 108, 2) := by decide +kernel
theorem dX0_rest_17 : decode cX0_rest 17 = .ok (.invokespecial 110, 3) := by decide +kernel
theorem dX0_rest_20 : decode cX0_rest 20 = .ok (.athrow, 1) := by decide +kernel
theorem dX0_rest_21 : decode cX0_rest 21 = .ok (.aload_n 0, 1) := by decide +kernel
theorem dX0_rest_22 : decode cX0_rest 22 = .ok (.bipush 99, 2) := by decide +kernel
theorem dX0_rest_24 : decode cX0_rest 24 = .ok (.aload_n 0, 1) := by decide +kernel
theorem dX0_rest_25 : decode cX0_rest 25 = .ok (.getfield 25, 3) := by decide +kernel
theorem dX0_rest_28 : decode cX0_rest 28 = .ok (.iload_n 1, 1) := by decide +kernel
theorem dX0_rest_29 : decode cX0_rest 29 = .ok (.iadd, 1) := by decide +kernel
theorem dX0_rest_30 : decode cX0_rest 30 = .ok (.invokestatic 111, 3) := by decide +kernel
theorem dX0_rest_33 : decode cX0_rest 33 = .ok (.putfield 25, 3) := by decide +kernel
theorem dX0_rest_36 : decode cX0_rest 36 = .ok (.aload_n 0, 1) := by decide +kernel
theorem dX0_rest_37 : decode cX0_rest 37 = .ok (.getfield 25, 3) := by decide +kernel
theorem dX0_rest_40 : decode cX0_rest 40 = .ok (.ireturn, 1) := by decide +kernel
theorem dX0_remarks_0 : decode cX0_remarks 0 = .ok (.aload_n 0, 1) := by decide +kernel
theorem dX0_remarks_1 : decode cX0_remarks 1 = .ok (.getfield 69, 3) := by decide +kernel
theorem dX0_remarks_4 : decode cX0_remarks 4 = .ok (.ireturn, 1) := by decide +kernel
theorem dX0_words_0 : decode cX0_words 0 = .ok (.aload_n 0, 1) := by decide +kernel
theorem dX0_words_1 : decode cX0_words 1 = .ok (.getfield 116, 3) := by decide +kernel
theorem dX0_words_4 : decode cX0_words 4 = .ok (.ireturn, 1) := by decide +kernel
theorem dX0_coughs_0 : decode cX0_coughs 0 = .ok (.aload_n 0, 1) := by decide +kernel
theorem dX0_coughs_1 : decode cX0_coughs 1 = .ok (.getfield 69, 3) := by decide +kernel
theorem dX0_coughs_4 : decode cX0_coughs 4 = .ok (.aload_n 0, 1) := by decide +kernel
theorem dX0_coughs_5 : decode cX0_coughs 5 = .ok (.getfield 116, 3) := by decide +kernel
theorem dX0_coughs_8 : decode cX0_coughs 8 = .ok (.isub, 1) := by decide +kernel
theorem dX0_coughs_9 : decode cX0_coughs 9 = .ok (.ireturn, 1) := by decide +kernel
theorem dX0_patience_0 : decode cX0_patience 0 = .ok (.aload_n 0, 1) := by decide +kernel
theorem dX0_patience_1 : decode cX0_patience 1 = .ok (.getfield 25, 3) := by decide +kernel
theorem dX0_patience_4 : decode cX0_patience 4 = .ok (.ireturn, 1) := by decide +kernel
theorem dX0_spent_0 : decode cX0_spent 0 = .ok (.aload_n 0, 1) := by decide +kernel
theorem dX0_spent_1 : decode cX0_spent 1 = .ok (.getfield 119, 3) := by decide +kernel
theorem dX0_spent_4 : decode cX0_spent 4 = .ok (.ireturn, 1) := by decide +kernel
set_option maxRecDepth 20000 in
theorem ggX0_isCough_X0_requirePlace : GoodIn wsX0_isCough wsX0_requirePlace := goodIn_ca (goodIn_r _ [5, 6, 7, 8, 17, 18, 19, 20, 21, 22, 23, 24, 25, 26] (by decide +kernel) (by decide +kernel)) (goodIn_sub (fun _ h => List.mem_cons_of_mem _ (List.mem_append_right _ h)) (by decide +kernel))
set_option maxRecDepth 20000 in
theorem gX0_isCough_X0_requirePlace : GoodIn wsX0_isCough (wsV RX0 43 RX0 yX0_requirePlace wsX0_requirePlace) := goodIn_app (goodIn_of _ (by decide +kernel)) ggX0_isCough_X0_requirePlace
set_option maxRecDepth 20000 in
theorem ggX0_isCough_X0_coughStandsAt : GoodIn wsX0_isCough wsX0_coughStandsAt := goodIn_r _ [12, 13, 14, 15, 4, 16, 17, 18, 19, 20, 21, 22, 23, 24, 25, 26] (by decide +kernel) (by decide +kernel)
set_option maxRecDepth 20000 in
theorem gX0_isCough_X0_coughStandsAt : GoodIn wsX0_isCough (wsV RX0 46 RX0 yX0_coughStandsAt wsX0_coughStandsAt) := goodIn_app (goodIn_of _ (by decide +kernel)) ggX0_isCough_X0_coughStandsAt
theorem dX0_isCough_0 : decode cX0_isCough 0 = .ok (.aload_n 0, 1) := by decide +kernel
theorem dX0_isCough_1 : decode cX0_isCough 1 = .ok (.iload_n 1, 1) := by decide +kernel
theorem dX0_isCough_2 : decode cX0_isCough 2 = .ok (.invokevirtual 43, 3) := by decide +kernel
theorem dX0_isCough_5 : decode cX0_isCough 5 = .ok (.aload_n 0, 1) := by decide +kernel
theorem dX0_isCough_6 : decode cX0_isCough 6 = .ok (.iload_n 1, 1) := by decide +kernel
theorem dX0_isCough_7 : decode cX0_isCough 7 = .ok (.invokevirtual 46, 3) := by decide +kernel
theorem dX0_isCough_10 : decode cX0_isCough 10 = .ok (.ireturn, 1) := by decide +kernel
set_option maxRecDepth 20000 in
theorem ggX0_speakerAt_X0_requirePlace : GoodIn wsX0_speakerAt wsX0_requirePlace := goodIn_ca (goodIn_r _ [6, 7, 8, 9, 13, 14, 15, 16, 17, 18, 19, 20, 21, 22] (by decide +kernel) (by decide +kernel)) (goodIn_sub (fun _ h => List.mem_cons_of_mem _ (List.mem_append_right _ h)) (by decide +kernel))
set_option maxRecDepth 20000 in
theorem gX0_speakerAt_X0_requirePlace : GoodIn wsX0_speakerAt (wsV RX0 43 RX0 yX0_requirePlace wsX0_requirePlace) := goodIn_app (goodIn_of _ (by decide +kernel)) ggX0_speakerAt_X0_requirePlace
set_option maxRecDepth 20000 in
theorem ggX0_speakerAt_X0_read : GoodIn wsX0_speakerAt wsX0_read := goodIn_r _ [12] (by decide +kernel) (by decide +kernel)
set_option maxRecDepth 20000 in
theorem gX0_speakerAt_X0_read : GoodIn wsX0_speakerAt (va_wsS RX0 78 yX0_read wsX0_read) := goodIn_app (goodIn_of _ (by decide +kernel)) ggX0_speakerAt_X0_read
theorem dX0_speakerAt_0 : decode cX0_speakerAt 0 = .ok (.aload_n 0, 1) := by decide +kernel
theorem dX0_speakerAt_1 : decode cX0_speakerAt 1 = .ok (.iload_n 1, 1) := by decide +kernel
theorem dX0_speakerAt_2 : decode cX0_speakerAt 2 = .ok (.invokevirtual 43, 3) := by decide +kernel
theorem dX0_speakerAt_5 : decode cX0_speakerAt 5 = .ok (.aload_n 0, 1) := by decide +kernel
theorem dX0_speakerAt_6 : decode cX0_speakerAt 6 = .ok (.getfield 9, 3) := by decide +kernel
theorem dX0_speakerAt_9 : decode cX0_speakerAt 9 = .ok (.iload_n 1, 1) := by decide +kernel
theorem dX0_speakerAt_10 : decode cX0_speakerAt 10 = .ok (.invokestatic 78, 3) := by decide +kernel
theorem dX0_speakerAt_13 : decode cX0_speakerAt 13 = .ok (.ireturn, 1) := by decide +kernel
set_option maxRecDepth 20000 in
theorem ggX0_placeOf_X0_requireWord : GoodIn wsX0_placeOf wsX0_requireWord := goodIn_ca (goodIn_r _ [6, 7, 8, 9, 13, 14, 15, 16, 17, 18, 19, 20, 21, 22] (by decide +kernel) (by decide +kernel)) (goodIn_sub (fun _ h => List.mem_cons_of_mem _ (List.mem_append_right _ h)) (by decide +kernel))
set_option maxRecDepth 20000 in
theorem gX0_placeOf_X0_requireWord : GoodIn wsX0_placeOf (wsV RX0 122 RX0 yX0_requireWord wsX0_requireWord) := goodIn_app (goodIn_of _ (by decide +kernel)) ggX0_placeOf_X0_requireWord
set_option maxRecDepth 20000 in
theorem ggX0_placeOf_X0_read : GoodIn wsX0_placeOf wsX0_read := goodIn_r _ [12] (by decide +kernel) (by decide +kernel)
set_option maxRecDepth 20000 in
theorem gX0_placeOf_X0_read : GoodIn wsX0_placeOf (va_wsS RX0 78 yX0_read wsX0_read) := goodIn_app (goodIn_of _ (by decide +kernel)) ggX0_placeOf_X0_read
theorem dX0_placeOf_0 : decode cX0_placeOf 0 = .ok (.aload_n 0, 1) := by decide +kernel
theorem dX0_placeOf_1 : decode cX0_placeOf 1 = .ok (.iload_n 1, 1) := by decide +kernel
theorem dX0_placeOf_2 : decode cX0_placeOf 2 = .ok (.invokevirtual 122, 3) := by decide +kernel
theorem dX0_placeOf_5 : decode cX0_placeOf 5 = .ok (.aload_n 0, 1) := by decide +kernel
theorem dX0_placeOf_6 : decode cX0_placeOf 6 = .ok (.getfield 19, 3) := by decide +kernel
theorem dX0_placeOf_9 : decode cX0_placeOf 9 = .ok (.iload_n 1, 1) := by decide +kernel
theorem dX0_placeOf_10 : decode cX0_placeOf 10 = .ok (.invokestatic 78, 3) := by decide +kernel
theorem dX0_placeOf_13 : decode cX0_placeOf 13 = .ok (.ireturn, 1) := by decide +kernel
set_option maxRecDepth 20000 in
theorem ggX0_topicOf_X0_requireWord : GoodIn wsX0_topicOf wsX0_requireWord := goodIn_ca (goodIn_r _ [5, 6, 7, 8, 18, 19, 20, 21, 22, 23, 24, 25, 26, 27] (by decide +kernel) (by decide +kernel)) (goodIn_sub (fun _ h => List.mem_cons_of_mem _ (List.mem_append_right _ h)) (by decide +kernel))
set_option maxRecDepth 20000 in
theorem gX0_topicOf_X0_requireWord : GoodIn wsX0_topicOf (wsV RX0 122 RX0 yX0_requireWord wsX0_requireWord) := goodIn_app (goodIn_of _ (by decide +kernel)) ggX0_topicOf_X0_requireWord
set_option maxRecDepth 20000 in
theorem ggX0_topicOf_X0_topicOfWord : GoodIn wsX0_topicOf wsX0_topicOfWord := goodIn_r _ [12, 13, 14, 15, 16, 4, 17, 18, 19, 20, 21, 22, 23, 24, 25, 26, 27] (by decide +kernel) (by decide +kernel)
set_option maxRecDepth 20000 in
theorem gX0_topicOf_X0_topicOfWord : GoodIn wsX0_topicOf (wsV RX0 93 RX0 yX0_topicOfWord wsX0_topicOfWord) := goodIn_app (goodIn_of _ (by decide +kernel)) ggX0_topicOf_X0_topicOfWord
theorem dX0_topicOf_0 : decode cX0_topicOf 0 = .ok (.aload_n 0, 1) := by decide +kernel
theorem dX0_topicOf_1 : decode cX0_topicOf 1 = .ok (.iload_n 1, 1) := by decide +kernel
theorem dX0_topicOf_2 : decode cX0_topicOf 2 = .ok (.invokevirtual 122, 3) := by decide +kernel
theorem dX0_topicOf_5 : decode cX0_topicOf 5 = .ok (.aload_n 0, 1) := by decide +kernel
theorem dX0_topicOf_6 : decode cX0_topicOf 6 = .ok (.iload_n 1, 1) := by decide +kernel
theorem dX0_topicOf_7 : decode cX0_topicOf 7 = .ok (.invokevirtual 93, 3) := by decide +kernel
theorem dX0_topicOf_10 : decode cX0_topicOf 10 = .ok (.ireturn, 1) := by decide +kernel
set_option maxRecDepth 20000 in
theorem ggX0_wordsOf_X0_requireSpeaker : GoodIn wsX0_wordsOf wsX0_requireSpeaker := goodIn_ca (goodIn_r _ [5, 6, 7] (by decide +kernel) (by decide +kernel)) (goodIn_sub (fun _ h => List.mem_cons_of_mem _ (List.mem_append_right _ h)) (by decide +kernel))
set_option maxRecDepth 20000 in
theorem gX0_wordsOf_X0_requireSpeaker : GoodIn wsX0_wordsOf (va_wsS RX0 29 yX0_requireSpeaker wsX0_requireSpeaker) := goodIn_app (goodIn_of _ (by decide +kernel)) ggX0_wordsOf_X0_requireSpeaker
set_option maxRecDepth 20000 in
theorem ggX0_wordsOf_X0_speakerOfWord : GoodIn wsX0_wordsOf wsX0_speakerOfWord := goodIn_r _ [11, 12, 13, 14, 15, 4, 16, 17, 18, 19, 20, 21, 22, 23, 24, 25, 26] (by decide +kernel) (by decide +kernel)
set_option maxRecDepth 20000 in
theorem gX0_wordsOf_X0_speakerOfWord : GoodIn wsX0_wordsOf (wsV RX0 89 RX0 yX0_speakerOfWord wsX0_speakerOfWord) := goodIn_app (goodIn_of _ (by decide +kernel)) ggX0_wordsOf_X0_speakerOfWord
theorem dX0_wordsOf_0 : decode cX0_wordsOf 0 = .ok (.iload_n 1, 1) := by decide +kernel
theorem dX0_wordsOf_1 : decode cX0_wordsOf 1 = .ok (.invokestatic 29, 3) := by decide +kernel
theorem dX0_wordsOf_4 : decode cX0_wordsOf 4 = .ok (.iconst 0, 1) := by decide +kernel
theorem dX0_wordsOf_5 : decode cX0_wordsOf 5 = .ok (.istore_n 2, 1) := by decide +kernel
theorem dX0_wordsOf_6 : decode cX0_wordsOf 6 = .ok (.iconst 0, 1) := by decide +kernel
theorem dX0_wordsOf_7 : decode cX0_wordsOf 7 = .ok (.istore_n 3, 1) := by decide +kernel
theorem dX0_wordsOf_8 : decode cX0_wordsOf 8 = .ok (.iload_n 3, 1) := by decide +kernel
theorem dX0_wordsOf_9 : decode cX0_wordsOf 9 = .ok (.aload_n 0, 1) := by decide +kernel
theorem dX0_wordsOf_10 : decode cX0_wordsOf 10 = .ok (.getfield 116, 3) := by decide +kernel
theorem dX0_wordsOf_13 : decode cX0_wordsOf 13 = .ok (.if_icmp .ge 21, 3) := by decide +kernel
theorem dX0_wordsOf_16 : decode cX0_wordsOf 16 = .ok (.aload_n 0, 1) := by decide +kernel
theorem dX0_wordsOf_17 : decode cX0_wordsOf 17 = .ok (.iload_n 3, 1) := by decide +kernel
theorem dX0_wordsOf_18 : decode cX0_wordsOf 18 = .ok (.invokevirtual 89, 3) := by decide +kernel
theorem dX0_wordsOf_21 : decode cX0_wordsOf 21 = .ok (.iload_n 1, 1) := by decide +kernel
theorem dX0_wordsOf_22 : decode cX0_wordsOf 22 = .ok (.if_icmp .ne 6, 3) := by decide +kernel
theorem dX0_wordsOf_25 : decode cX0_wordsOf 25 = .ok (.iinc 2 1, 3) := by decide +kernel
theorem dX0_wordsOf_28 : decode cX0_wordsOf 28 = .ok (.iinc 3 1, 3) := by decide +kernel
theorem dX0_wordsOf_31 : decode cX0_wordsOf 31 = .ok (.goto (-23), 3) := by decide +kernel
theorem dX0_wordsOf_34 : decode cX0_wordsOf 34 = .ok (.iload_n 2, 1) := by decide +kernel
theorem dX0_wordsOf_35 : decode cX0_wordsOf 35 = .ok (.ireturn, 1) := by decide +kernel
set_option maxRecDepth 20000 in
theorem ggX0_coughsIn_X0_requireGap : GoodIn wsX0_coughsIn wsX0_requireGap := goodIn_ca (goodIn_r _ [5, 6, 7, 8, 9, 10, 4, 11, 12, 21, 22, 23, 24, 25, 26, 27, 28, 29, 30] (by decide +kernel) (by decide +kernel)) (goodIn_sub (fun _ h => List.mem_cons_of_mem _ (List.mem_append_right _ h)) (by decide +kernel))
set_option maxRecDepth 20000 in
theorem gX0_coughsIn_X0_requireGap : GoodIn wsX0_coughsIn (wsV RX0 72 RX0 yX0_requireGap wsX0_requireGap) := goodIn_app (goodIn_of _ (by decide +kernel)) ggX0_coughsIn_X0_requireGap
set_option maxRecDepth 20000 in
theorem ggX0_coughsIn_X0_coughsOfGap : GoodIn wsX0_coughsIn wsX0_coughsOfGap := goodIn_r _ [16, 17, 18, 19, 4, 20, 21, 22, 23, 24, 25, 26, 27, 28, 29, 30] (by decide +kernel) (by decide +kernel)
set_option maxRecDepth 20000 in
theorem gX0_coughsIn_X0_coughsOfGap : GoodIn wsX0_coughsIn (wsV RX0 125 RX0 yX0_coughsOfGap wsX0_coughsOfGap) := goodIn_app (goodIn_of _ (by decide +kernel)) ggX0_coughsIn_X0_coughsOfGap
theorem dX0_coughsIn_0 : decode cX0_coughsIn 0 = .ok (.aload_n 0, 1) := by decide +kernel
theorem dX0_coughsIn_1 : decode cX0_coughsIn 1 = .ok (.iload_n 1, 1) := by decide +kernel
theorem dX0_coughsIn_2 : decode cX0_coughsIn 2 = .ok (.invokevirtual 72, 3) := by decide +kernel
theorem dX0_coughsIn_5 : decode cX0_coughsIn 5 = .ok (.aload_n 0, 1) := by decide +kernel
theorem dX0_coughsIn_6 : decode cX0_coughsIn 6 = .ok (.iload_n 1, 1) := by decide +kernel
theorem dX0_coughsIn_7 : decode cX0_coughsIn 7 = .ok (.invokevirtual 125, 3) := by decide +kernel
theorem dX0_coughsIn_10 : decode cX0_coughsIn 10 = .ok (.ireturn, 1) := by decide +kernel
set_option maxRecDepth 20000 in
theorem ggX0_strainOf_X0_requireGap : GoodIn wsX0_strainOf wsX0_requireGap := goodIn_ca (goodIn_r _ [5, 6, 7, 8, 9, 10, 4, 11, 12, 40, 41, 42, 43, 44, 45, 46, 47, 48, 49] (by decide +kernel) (by decide +kernel)) (goodIn_sub (fun _ h => List.mem_cons_of_mem _ (List.mem_append_right _ h)) (by decide +kernel))
set_option maxRecDepth 20000 in
theorem gX0_strainOf_X0_requireGap : GoodIn wsX0_strainOf (wsV RX0 72 RX0 yX0_requireGap wsX0_requireGap) := goodIn_app (goodIn_of _ (by decide +kernel)) ggX0_strainOf_X0_requireGap
set_option maxRecDepth 20000 in
theorem ggX0_strainOf_X0_strainOfGap : GoodIn wsX0_strainOf wsX0_strainOfGap := goodIn_r _ [16, 17, 18, 19, 4, 20, 21, 22, 23, 24, 25, 26, 27, 28, 29, 30, 31, 32, 33, 34, 35, 36, 37, 38, 39, 40, 41, 42, 43, 44, 45, 46, 47, 48, 49] (by decide +kernel) (by decide +kernel)
set_option maxRecDepth 20000 in
theorem gX0_strainOf_X0_strainOfGap : GoodIn wsX0_strainOf (wsV RX0 128 RX0 yX0_strainOfGap wsX0_strainOfGap) := goodIn_app (goodIn_of _ (by decide +kernel)) ggX0_strainOf_X0_strainOfGap
theorem dX0_strainOf_0 : decode cX0_strainOf 0 = .ok (.aload_n 0, 1) := by decide +kernel
theorem dX0_strainOf_1 : decode cX0_strainOf 1 = .ok (.iload_n 1, 1) := by decide +kernel
theorem dX0_strainOf_2 : decode cX0_strainOf 2 = .ok (.invokevirtual 72, 3) := by decide +kernel
theorem dX0_strainOf_5 : decode cX0_strainOf 5 = .ok (.aload_n 0, 1) := by decide +kernel
theorem dX0_strainOf_6 : decode cX0_strainOf 6 = .ok (.iload_n 1, 1) := by decide +kernel
theorem dX0_strainOf_7 : decode cX0_strainOf 7 = .ok (.invokevirtual 128, 3) := by decide +kernel
theorem dX0_strainOf_10 : decode cX0_strainOf 10 = .ok (.ireturn, 1) := by decide +kernel
set_option maxRecDepth 20000 in
theorem ggX0_isTied_X0_requireGap : GoodIn wsX0_isTied wsX0_requireGap := goodIn_ca (goodIn_r _ [5, 6, 7, 8, 9, 10, 4, 11, 12, 22, 23, 24, 25, 26, 27, 28, 29, 30, 31] (by decide +kernel) (by decide +kernel)) (goodIn_sub (fun _ h => List.mem_cons_of_mem _ (List.mem_append_right _ h)) (by decide +kernel))
set_option maxRecDepth 20000 in
theorem gX0_isTied_X0_requireGap : GoodIn wsX0_isTied (wsV RX0 72 RX0 yX0_requireGap wsX0_requireGap) := goodIn_app (goodIn_of _ (by decide +kernel)) ggX0_isTied_X0_requireGap
set_option maxRecDepth 20000 in
theorem ggX0_isTied_X0_gapTied : GoodIn wsX0_isTied wsX0_gapTied := goodIn_r _ [16, 17, 18, 19, 20, 4, 21, 22, 23, 24, 25, 26, 27, 28, 29, 30, 31] (by decide +kernel) (by decide +kernel)
set_option maxRecDepth 20000 in
theorem gX0_isTied_X0_gapTied : GoodIn wsX0_isTied (wsV RX0 131 RX0 yX0_gapTied wsX0_gapTied) := goodIn_app (goodIn_of _ (by decide +kernel)) ggX0_isTied_X0_gapTied
theorem dX0_isTied_0 : decode cX0_isTied 0 = .ok (.aload_n 0, 1) := by decide +kernel
theorem dX0_isTied_1 : decode cX0_isTied 1 = .ok (.iload_n 1, 1) := by decide +kernel
theorem dX0_isTied_2 : decode cX0_isTied 2 = .ok (.invokevirtual 72, 3) := by decide +kernel
theorem dX0_isTied_5 : decode cX0_isTied 5 = .ok (.aload_n 0, 1) := by decide +kernel
theorem dX0_isTied_6 : decode cX0_isTied 6 = .ok (.iload_n 1, 1) := by decide +kernel
theorem dX0_isTied_7 : decode cX0_isTied 7 = .ok (.invokevirtual 131, 3) := by decide +kernel
theorem dX0_isTied_10 : decode cX0_isTied 10 = .ok (.ireturn, 1) := by decide +kernel
set_option maxRecDepth 20000 in
theorem ggX0_isSmooth_X0_requireGap : GoodIn wsX0_isSmooth wsX0_requireGap := goodIn_ca (goodIn_r _ [5, 6, 7, 8, 9, 10, 4, 11, 12, 64, 65, 66, 67, 68, 69, 70, 71, 72, 73] (by decide +kernel) (by decide +kernel)) (goodIn_sub (fun _ h => List.mem_cons_of_mem _ (List.mem_append_right _ h)) (by decide +kernel))
set_option maxRecDepth 20000 in
theorem gX0_isSmooth_X0_requireGap : GoodIn wsX0_isSmooth (wsV RX0 72 RX0 yX0_requireGap wsX0_requireGap) := goodIn_app (goodIn_of _ (by decide +kernel)) ggX0_isSmooth_X0_requireGap
set_option maxRecDepth 20000 in
theorem ggX0_isSmooth_X0_kindOfGap : GoodIn wsX0_isSmooth wsX0_kindOfGap := goodIn_r _ [16, 17, 18, 19, 4, 20, 21, 22, 23, 24, 25, 26, 27, 28, 29, 30, 31, 32, 33, 34, 35, 36, 37, 38, 39, 40, 41, 42, 43, 44, 45, 46, 47, 48, 49, 50, 51, 52, 53, 54, 55, 56, 57, 58, 59, 60, 61, 62, 63, 64, 65, 66, 67, 68, 69, 70, 71, 72, 73] (by decide +kernel) (by decide +kernel)
set_option maxRecDepth 20000 in
theorem gX0_isSmooth_X0_kindOfGap : GoodIn wsX0_isSmooth (wsV RX0 134 RX0 yX0_kindOfGap wsX0_kindOfGap) := goodIn_app (goodIn_of _ (by decide +kernel)) ggX0_isSmooth_X0_kindOfGap
theorem dX0_isSmooth_0 : decode cX0_isSmooth 0 = .ok (.aload_n 0, 1) := by decide +kernel
theorem dX0_isSmooth_1 : decode cX0_isSmooth 1 = .ok (.iload_n 1, 1) := by decide +kernel
theorem dX0_isSmooth_2 : decode cX0_isSmooth 2 = .ok (.invokevirtual 72, 3) := by decide +kernel
theorem dX0_isSmooth_5 : decode cX0_isSmooth 5 = .ok (.aload_n 0, 1) := by decide +kernel
theorem dX0_isSmooth_6 : decode cX0_isSmooth 6 = .ok (.iload_n 1, 1) := by decide +kernel
theorem dX0_isSmooth_7 : decode cX0_isSmooth 7 = .ok (.invokevirtual 134, 3) := by decide +kernel
theorem dX0_isSmooth_10 : decode cX0_isSmooth 10 = .ok (.ifCond .ne 7, 3) := by decide +kernel
theorem dX0_isSmooth_13 : decode cX0_isSmooth 13 = .ok (.iconst 1, 1) := by decide +kernel
theorem dX0_isSmooth_14 : decode cX0_isSmooth 14 = .ok (.goto 4, 3) := by decide +kernel
theorem dX0_isSmooth_17 : decode cX0_isSmooth 17 = .ok (.iconst 0, 1) := by decide +kernel
theorem dX0_isSmooth_18 : decode cX0_isSmooth 18 = .ok (.ireturn, 1) := by decide +kernel
set_option maxRecDepth 20000 in
theorem ggX0_isPolite_X0_requireGap : GoodIn wsX0_isPolite wsX0_requireGap := goodIn_ca (goodIn_r _ [5, 6, 7, 8, 9, 10, 4, 11, 12, 64, 65, 66, 67, 68, 69, 70, 71, 72, 73] (by decide +kernel) (by decide +kernel)) (goodIn_sub (fun _ h => List.mem_cons_of_mem _ (List.mem_append_right _ h)) (by decide +kernel))
set_option maxRecDepth 20000 in
theorem gX0_isPolite_X0_requireGap : GoodIn wsX0_isPolite (wsV RX0 72 RX0 yX0_requireGap wsX0_requireGap) := goodIn_app (goodIn_of _ (by decide +kernel)) ggX0_isPolite_X0_requireGap
set_option maxRecDepth 20000 in
theorem ggX0_isPolite_X0_kindOfGap : GoodIn wsX0_isPolite wsX0_kindOfGap := goodIn_r _ [16, 17, 18, 19, 4, 20, 21, 22, 23, 24, 25, 26, 27, 28, 29, 30, 31, 32, 33, 34, 35, 36, 37, 38, 39, 40, 41, 42, 43, 44, 45, 46, 47, 48, 49, 50, 51, 52, 53, 54, 55, 56, 57, 58, 59, 60, 61, 62, 63, 64, 65, 66, 67, 68, 69, 70, 71, 72, 73] (by decide +kernel) (by decide +kernel)
set_option maxRecDepth 20000 in
theorem gX0_isPolite_X0_kindOfGap : GoodIn wsX0_isPolite (wsV RX0 134 RX0 yX0_kindOfGap wsX0_kindOfGap) := goodIn_app (goodIn_of _ (by decide +kernel)) ggX0_isPolite_X0_kindOfGap
theorem dX0_isPolite_0 : decode cX0_isPolite 0 = .ok (.aload_n 0, 1) := by decide +kernel
theorem dX0_isPolite_1 : decode cX0_isPolite 1 = .ok (.iload_n 1, 1) := by decide +kernel
theorem dX0_isPolite_2 : decode cX0_isPolite 2 = .ok (.invokevirtual 72, 3) := by decide +kernel
theorem dX0_isPolite_5 : decode cX0_isPolite 5 = .ok (.aload_n 0, 1) := by decide +kernel
theorem dX0_isPolite_6 : decode cX0_isPolite 6 = .ok (.iload_n 1, 1) := by decide +kernel
theorem dX0_isPolite_7 : decode cX0_isPolite 7 = .ok (.invokevirtual 134, 3) := by decide +kernel
theorem dX0_isPolite_10 : decode cX0_isPolite 10 = .ok (.iconst 1, 1) := by decide +kernel
theorem dX0_isPolite_11 : decode cX0_isPolite 11 = .ok (.if_icmp .ne 7, 3) := by decide +kernel
theorem dX0_isPolite_14 : decode cX0_isPolite 14 = .ok (.iconst 1, 1) := by decide +kernel
theorem dX0_isPolite_15 : decode cX0_isPolite 15 = .ok (.goto 4, 3) := by decide +kernel
theorem dX0_isPolite_18 : decode cX0_isPolite 18 = .ok (.iconst 0, 1) := by decide +kernel
theorem dX0_isPolite_19 : decode cX0_isPolite 19 = .ok (.ireturn, 1) := by decide +kernel
set_option maxRecDepth 20000 in
theorem ggX0_isBroken_X0_requireGap : GoodIn wsX0_isBroken wsX0_requireGap := goodIn_ca (goodIn_r _ [5, 6, 7, 8, 9, 10, 4, 11, 12, 64, 65, 66, 67, 68, 69, 70, 71, 72, 73] (by decide +kernel) (by decide +kernel)) (goodIn_sub (fun _ h => List.mem_cons_of_mem _ (List.mem_append_right _ h)) (by decide +kernel))
set_option maxRecDepth 20000 in
theorem gX0_isBroken_X0_requireGap : GoodIn wsX0_isBroken (wsV RX0 72 RX0 yX0_requireGap wsX0_requireGap) := goodIn_app (goodIn_of _ (by decide +kernel)) ggX0_isBroken_X0_requireGap
set_option maxRecDepth 20000 in
theorem ggX0_isBroken_X0_kindOfGap : GoodIn wsX0_isBroken wsX0_kindOfGap := goodIn_r _ [16, 17, 18, 19, 4, 20, 21, 22, 23, 24, 25, 26, 27, 28, 29, 30, 31, 32, 33, 34, 35, 36, 37, 38, 39, 40, 41, 42, 43, 44, 45, 46, 47, 48, 49, 50, 51, 52, 53, 54, 55, 56, 57, 58, 59, 60, 61, 62, 63, 64, 65, 66, 67, 68, 69, 70, 71, 72, 73] (by decide +kernel) (by decide +kernel)
set_option maxRecDepth 20000 in
theorem gX0_isBroken_X0_kindOfGap : GoodIn wsX0_isBroken (wsV RX0 134 RX0 yX0_kindOfGap wsX0_kindOfGap) := goodIn_app (goodIn_of _ (by decide +kernel)) ggX0_isBroken_X0_kindOfGap
theorem dX0_isBroken_0 : decode cX0_isBroken 0 = .ok (.aload_n 0, 1) := by decide +kernel
theorem dX0_isBroken_1 : decode cX0_isBroken 1 = .ok (.iload_n 1, 1) := by decide +kernel
theorem dX0_isBroken_2 : decode cX0_isBroken 2 = .ok (.invokevirtual 72, 3) := by decide +kernel
theorem dX0_isBroken_5 : decode cX0_isBroken 5 = .ok (.aload_n 0, 1) := by decide +kernel
theorem dX0_isBroken_6 : decode cX0_isBroken 6 = .ok (.iload_n 1, 1) := by decide +kernel
theorem dX0_isBroken_7 : decode cX0_isBroken 7 = .ok (.invokevirtual 134, 3) := by decide +kernel
theorem dX0_isBroken_10 : decode cX0_isBroken 10 = .ok (.iconst 2, 1) := by decide +kernel
theorem dX0_isBroken_11 : decode cX0_isBroken 11 = .ok (.if_icmp .ne 7, 3) := by decide +kernel
theorem dX0_isBroken_14 : decode cX0_isBroken 14 = .ok (.iconst 1, 1) := by decide +kernel
theorem dX0_isBroken_15 : decode cX0_isBroken 15 = .ok (.goto 4, 3) := by decide +kernel
theorem dX0_isBroken_18 : decode cX0_isBroken 18 = .ok (.iconst 0, 1) := by decide +kernel
theorem dX0_isBroken_19 : decode cX0_isBroken 19 = .ok (.ireturn, 1) := by decide +kernel
set_option maxRecDepth 20000 in
theorem ggX0_brokenGaps_X0_gapsOfKind : GoodIn wsX0_brokenGaps wsX0_gapsOfKind := goodIn_r _ [5, 6, 7, 8, 4, 9, 10, 11, 12, 13, 14, 15, 16, 17, 18, 19, 20, 21, 22, 23, 24, 25, 26, 27, 28, 29, 30, 31, 32, 33, 34, 35, 36, 37, 38, 39, 40, 41, 42, 43, 44, 45, 46, 47, 48, 49, 50, 51, 52, 53, 54, 55, 56, 57, 58, 59, 60, 61, 62, 63, 64, 65, 66, 67, 68, 69, 70, 71] (by decide +kernel) (by decide +kernel)
set_option maxRecDepth 20000 in
theorem gX0_brokenGaps_X0_gapsOfKind : GoodIn wsX0_brokenGaps (wsV RX0 137 RX0 yX0_gapsOfKind wsX0_gapsOfKind) := goodIn_app (goodIn_of _ (by decide +kernel)) ggX0_brokenGaps_X0_gapsOfKind
theorem dX0_brokenGaps_0 : decode cX0_brokenGaps 0 = .ok (.aload_n 0, 1) := by decide +kernel
theorem dX0_brokenGaps_1 : decode cX0_brokenGaps 1 = .ok (.iconst 2, 1) := by decide +kernel
theorem dX0_brokenGaps_2 : decode cX0_brokenGaps 2 = .ok (.invokevirtual 137, 3) := by decide +kernel
theorem dX0_brokenGaps_5 : decode cX0_brokenGaps 5 = .ok (.ireturn, 1) := by decide +kernel
set_option maxRecDepth 20000 in
theorem ggX0_politeGaps_X0_gapsOfKind : GoodIn wsX0_politeGaps wsX0_gapsOfKind := goodIn_r _ [5, 6, 7, 8, 4, 9, 10, 11, 12, 13, 14, 15, 16, 17, 18, 19, 20, 21, 22, 23, 24, 25, 26, 27, 28, 29, 30, 31, 32, 33, 34, 35, 36, 37, 38, 39, 40, 41, 42, 43, 44, 45, 46, 47, 48, 49, 50, 51, 52, 53, 54, 55, 56, 57, 58, 59, 60, 61, 62, 63, 64, 65, 66, 67, 68, 69, 70, 71] (by decide +kernel) (by decide +kernel)
set_option maxRecDepth 20000 in
theorem gX0_politeGaps_X0_gapsOfKind : GoodIn wsX0_politeGaps (wsV RX0 137 RX0 yX0_gapsOfKind wsX0_gapsOfKind) := goodIn_app (goodIn_of _ (by decide +kernel)) ggX0_politeGaps_X0_gapsOfKind
theorem dX0_politeGaps_0 : decode cX0_politeGaps 0 = .ok (.aload_n 0, 1) := by decide +kernel
theorem dX0_politeGaps_1 : decode cX0_politeGaps 1 = .ok (.iconst 1, 1) := by decide +kernel
theorem dX0_politeGaps_2 : decode cX0_politeGaps 2 = .ok (.invokevirtual 137, 3) := by decide +kernel
theorem dX0_politeGaps_5 : decode cX0_politeGaps 5 = .ok (.ireturn, 1) := by decide +kernel
theorem dX0_threads_0 : decode cX0_threads 0 = .ok (.aload_n 0, 1) := by decide +kernel
theorem dX0_threads_1 : decode cX0_threads 1 = .ok (.getfield 86, 3) := by decide +kernel
theorem dX0_threads_4 : decode cX0_threads 4 = .ok (.ireturn, 1) := by decide +kernel
set_option maxRecDepth 20000 in
theorem ggX0_threadOf_X0_requireWord : GoodIn wsX0_threadOf wsX0_requireWord := goodIn_ca (goodIn_r _ [5, 6, 7, 8, 17, 18, 19, 20, 21, 22, 23, 24, 25, 26] (by decide +kernel) (by decide +kernel)) (goodIn_sub (fun _ h => List.mem_cons_of_mem _ (List.mem_append_right _ h)) (by decide +kernel))
set_option maxRecDepth 20000 in
theorem gX0_threadOf_X0_requireWord : GoodIn wsX0_threadOf (wsV RX0 122 RX0 yX0_requireWord wsX0_requireWord) := goodIn_app (goodIn_of _ (by decide +kernel)) ggX0_threadOf_X0_requireWord
set_option maxRecDepth 20000 in
theorem ggX0_threadOf_X0_threadOfWord : GoodIn wsX0_threadOf wsX0_threadOfWord := goodIn_r _ [12, 13, 14, 15, 4, 16, 17, 18, 19, 20, 21, 22, 23, 24, 25, 26] (by decide +kernel) (by decide +kernel)
set_option maxRecDepth 20000 in
theorem gX0_threadOf_X0_threadOfWord : GoodIn wsX0_threadOf (wsV RX0 140 RX0 yX0_threadOfWord wsX0_threadOfWord) := goodIn_app (goodIn_of _ (by decide +kernel)) ggX0_threadOf_X0_threadOfWord
theorem dX0_threadOf_0 : decode cX0_threadOf 0 = .ok (.aload_n 0, 1) := by decide +kernel
theorem dX0_threadOf_1 : decode cX0_threadOf 1 = .ok (.iload_n 1, 1) := by decide +kernel
theorem dX0_threadOf_2 : decode cX0_threadOf 2 = .ok (.invokevirtual 122, 3) := by decide +kernel
theorem dX0_threadOf_5 : decode cX0_threadOf 5 = .ok (.aload_n 0, 1) := by decide +kernel
theorem dX0_threadOf_6 : decode cX0_threadOf 6 = .ok (.iload_n 1, 1) := by decide +kernel
theorem dX0_threadOf_7 : decode cX0_threadOf 7 = .ok (.invokevirtual 140, 3) := by decide +kernel
theorem dX0_threadOf_10 : decode cX0_threadOf 10 = .ok (.ireturn, 1) := by decide +kernel
set_option maxRecDepth 20000 in
theorem ggX0_lengthOf_X0_requireThread : GoodIn wsX0_lengthOf wsX0_requireThread := goodIn_ca (goodIn_r _ [5, 6, 7, 8, 22, 23, 24, 25, 26, 27, 28, 29, 30, 31] (by decide +kernel) (by decide +kernel)) (goodIn_sub (fun _ h => List.mem_cons_of_mem _ (List.mem_append_right _ h)) (by decide +kernel))
set_option maxRecDepth 20000 in
theorem gX0_lengthOf_X0_requireThread : GoodIn wsX0_lengthOf (wsV RX0 143 RX0 yX0_requireThread wsX0_requireThread) := goodIn_app (goodIn_of _ (by decide +kernel)) ggX0_lengthOf_X0_requireThread
set_option maxRecDepth 20000 in
theorem ggX0_lengthOf_X0_wordsInThread : GoodIn wsX0_lengthOf wsX0_wordsInThread := goodIn_r _ [12, 13, 14, 15, 16, 4, 17, 18, 19, 20, 21, 22, 23, 24, 25, 26, 27, 28, 29, 30, 31] (by decide +kernel) (by decide +kernel)
set_option maxRecDepth 20000 in
theorem gX0_lengthOf_X0_wordsInThread : GoodIn wsX0_lengthOf (wsV RX0 146 RX0 yX0_wordsInThread wsX0_wordsInThread) := goodIn_app (goodIn_of _ (by decide +kernel)) ggX0_lengthOf_X0_wordsInThread
theorem dX0_lengthOf_0 : decode cX0_lengthOf 0 = .ok (.aload_n 0, 1) := by decide +kernel
theorem dX0_lengthOf_1 : decode cX0_lengthOf 1 = .ok (.iload_n 1, 1) := by decide +kernel
theorem dX0_lengthOf_2 : decode cX0_lengthOf 2 = .ok (.invokevirtual 143, 3) := by decide +kernel
theorem dX0_lengthOf_5 : decode cX0_lengthOf 5 = .ok (.aload_n 0, 1) := by decide +kernel
theorem dX0_lengthOf_6 : decode cX0_lengthOf 6 = .ok (.iload_n 1, 1) := by decide +kernel
theorem dX0_lengthOf_7 : decode cX0_lengthOf 7 = .ok (.invokevirtual 146, 3) := by decide +kernel
theorem dX0_lengthOf_10 : decode cX0_lengthOf 10 = .ok (.ireturn, 1) := by decide +kernel
set_option maxRecDepth 20000 in
theorem ggX0_longestThread_X0_wordsInThread : GoodIn wsX0_longestThread wsX0_wordsInThread := goodIn_r _ [6, 7, 8, 9, 10, 5, 11, 12, 13, 14, 15, 16, 17, 18, 19, 20, 21, 22, 23, 24, 25] (by decide +kernel) (by decide +kernel)
set_option maxRecDepth 20000 in
theorem gX0_longestThread_X0_wordsInThread : GoodIn wsX0_longestThread (wsV RX0 146 RX0 yX0_wordsInThread wsX0_wordsInThread) := goodIn_app (goodIn_of _ (by decide +kernel)) ggX0_longestThread_X0_wordsInThread
theorem dX0_longestThread_0 : decode cX0_longestThread 0 = .ok (.iconst (-1), 1) := by decide +kernel
theorem dX0_longestThread_1 : decode cX0_longestThread 1 = .ok (.istore_n 1, 1) := by decide +kernel
theorem dX0_longestThread_2 : decode cX0_longestThread 2 = .ok (.iconst 0, 1) := by decide +kernel
theorem dX0_longestThread_3 : decode cX0_longestThread 3 = .ok (.istore_n 2, 1) := by decide +kernel
theorem dX0_longestThread_4 : decode cX0_longestThread 4 = .ok (.iconst 0, 1) := by decide +kernel
theorem dX0_longestThread_5 : decode cX0_longestThread 5 = .ok (.istore_n 3, 1) := by decide +kernel
theorem dX0_longestThread_6 : decode cX0_longestThread 6 = .ok (.iload_n 3, 1) := by decide +kernel
theorem dX0_longestThread_7 : decode cX0_longestThread 7 = .ok (.aload_n 0, 1) := by decide +kernel
theorem dX0_longestThread_8 : decode cX0_longestThread 8 = .ok (.getfield 86, 3) := by decide +kernel
theorem dX0_longestThread_11 : decode cX0_longestThread 11 = .ok (.if_icmp .ge 27, 3) := by decide +kernel
theorem dX0_longestThread_14 : decode cX0_longestThread 14 = .ok (.aload_n 0, 1) := by decide +kernel
theorem dX0_longestThread_15 : decode cX0_longestThread 15 = .ok (.iload_n 3, 1) := by decide +kernel
theorem dX0_longestThread_16 : decode cX0_longestThread 16 = .ok (.invokevirtual 146, 3) := by decide +kernel
theorem dX0_longestThread_19 : decode cX0_longestThread 19 = .ok (.istore 4, 2) := by decide +kernel
theorem dX0_longestThread_21 : decode cX0_longestThread 21 = .ok (.iload 4, 2) := by decide +kernel
theorem dX0_longestThread_23 : decode cX0_longestThread 23 = .ok (.iload_n 2, 1) := by decide +kernel
theorem dX0_longestThread_24 : decode cX0_longestThread 24 = .ok (.if_icmp .le 8, 3) := by decide +kernel
theorem dX0_longestThread_27 : decode cX0_longestThread 27 = .ok (.iload 4, 2) := by decide +kernel
theorem dX0_longestThread_29 : decode cX0_longestThread 29 = .ok (.istore_n 2, 1) := by decide +kernel
theorem dX0_longestThread_30 : decode cX0_longestThread 30 = .ok (.iload_n 3, 1) := by decide +kernel
theorem dX0_longestThread_31 : decode cX0_longestThread 31 = .ok (.istore_n 1, 1) := by decide +kernel
theorem dX0_longestThread_32 : decode cX0_longestThread 32 = .ok (.iinc 3 1, 3) := by decide +kernel
theorem dX0_longestThread_35 : decode cX0_longestThread 35 = .ok (.goto (-29), 3) := by decide +kernel
theorem dX0_longestThread_38 : decode cX0_longestThread 38 = .ok (.iload_n 1, 1) := by decide +kernel
theorem dX0_longestThread_39 : decode cX0_longestThread 39 = .ok (.ireturn, 1) := by decide +kernel
set_option maxRecDepth 20000 in
theorem ggX0_threadsOf_X0_requireSpeaker : GoodIn wsX0_threadsOf wsX0_requireSpeaker := goodIn_ca (goodIn_r _ [5, 6, 7] (by decide +kernel) (by decide +kernel)) (goodIn_sub (fun _ h => List.mem_cons_of_mem _ (List.mem_append_right _ h)) (by decide +kernel))
set_option maxRecDepth 20000 in
theorem gX0_threadsOf_X0_requireSpeaker : GoodIn wsX0_threadsOf (va_wsS RX0 29 yX0_requireSpeaker wsX0_requireSpeaker) := goodIn_app (goodIn_of _ (by decide +kernel)) ggX0_threadsOf_X0_requireSpeaker
set_option maxRecDepth 20000 in
theorem ggX0_threadsOf_X0_threadOfWord : GoodIn wsX0_threadsOf wsX0_threadOfWord := goodIn_r _ [11, 12, 13, 14, 4, 15, 22, 23, 24, 25, 26, 27, 28, 29, 30, 31] (by decide +kernel) (by decide +kernel)
set_option maxRecDepth 20000 in
theorem gX0_threadsOf_X0_threadOfWord : GoodIn wsX0_threadsOf (wsV RX0 140 RX0 yX0_threadOfWord wsX0_threadOfWord) := goodIn_app (goodIn_of _ (by decide +kernel)) ggX0_threadsOf_X0_threadOfWord
set_option maxRecDepth 20000 in
theorem ggX0_threadsOf_X0_speakerOfWord : GoodIn wsX0_threadsOf wsX0_speakerOfWord := goodIn_r _ [19, 20, 21, 13, 14, 4, 15, 22, 23, 24, 25, 26, 27, 28, 29, 30, 31] (by decide +kernel) (by decide +kernel)
set_option maxRecDepth 20000 in
theorem gX0_threadsOf_X0_speakerOfWord : GoodIn wsX0_threadsOf (wsV RX0 89 RX0 yX0_speakerOfWord wsX0_speakerOfWord) := goodIn_app (goodIn_of _ (by decide +kernel)) ggX0_threadsOf_X0_speakerOfWord
theorem dX0_threadsOf_0 : decode cX0_threadsOf 0 = .ok (.iload_n 1, 1) := by decide +kernel
theorem dX0_threadsOf_1 : decode cX0_threadsOf 1 = .ok (.invokestatic 29, 3) := by decide +kernel
theorem dX0_threadsOf_4 : decode cX0_threadsOf 4 = .ok (.iconst 0, 1) := by decide +kernel
theorem dX0_threadsOf_5 : decode cX0_threadsOf 5 = .ok (.istore_n 2, 1) := by decide +kernel
theorem dX0_threadsOf_6 : decode cX0_threadsOf 6 = .ok (.iconst (-1), 1) := by decide +kernel
theorem dX0_threadsOf_7 : decode cX0_threadsOf 7 = .ok (.istore_n 3, 1) := by decide +kernel
theorem dX0_threadsOf_8 : decode cX0_threadsOf 8 = .ok (.iconst 0, 1) := by decide +kernel
theorem dX0_threadsOf_9 : decode cX0_threadsOf 9 = .ok (.istore 4, 2) := by decide +kernel
theorem dX0_threadsOf_11 : decode cX0_threadsOf 11 = .ok (.iload 4, 2) := by decide +kernel
theorem dX0_threadsOf_13 : decode cX0_threadsOf 13 = .ok (.aload_n 0, 1) := by decide +kernel
theorem dX0_threadsOf_14 : decode cX0_threadsOf 14 = .ok (.getfield 116, 3) := by decide +kernel
theorem dX0_threadsOf_17 : decode cX0_threadsOf 17 = .ok (.if_icmp .ge 39, 3) := by decide +kernel
theorem dX0_threadsOf_20 : decode cX0_threadsOf 20 = .ok (.aload_n 0, 1) := by decide +kernel
theorem dX0_threadsOf_21 : decode cX0_threadsOf 21 = .ok (.iload 4, 2) := by decide +kernel
theorem dX0_threadsOf_23 : decode cX0_threadsOf 23 = .ok (.invokevirtual 140, 3) := by decide +kernel
theorem dX0_threadsOf_26 : decode cX0_threadsOf 26 = .ok (.istore 5, 2) := by decide +kernel
theorem dX0_threadsOf_28 : decode cX0_threadsOf 28 = .ok (.aload_n 0, 1) := by decide +kernel
theorem dX0_threadsOf_29 : decode cX0_threadsOf 29 = .ok (.iload 4, 2) := by decide +kernel
theorem dX0_threadsOf_31 : decode cX0_threadsOf 31 = .ok (.invokevirtual 89, 3) := by decide +kernel
theorem dX0_threadsOf_34 : decode cX0_threadsOf 34 = .ok (.iload_n 1, 1) := by decide +kernel
theorem dX0_threadsOf_35 : decode cX0_threadsOf 35 = .ok (.if_icmp .ne 15, 3) := by decide +kernel
theorem dX0_threadsOf_38 : decode cX0_threadsOf 38 = .ok (.iload 5, 2) := by decide +kernel
theorem dX0_threadsOf_40 : decode cX0_threadsOf 40 = .ok (.iload_n 3, 1) := by decide +kernel
theorem dX0_threadsOf_41 : decode cX0_threadsOf 41 = .ok (.if_icmp .eq 9, 3) := by decide +kernel
theorem dX0_threadsOf_44 : decode cX0_threadsOf 44 = .ok (.iload 5, 2) := by decide +kernel
theorem dX0_threadsOf_46 : decode cX0_threadsOf 46 = .ok (.istore_n 3, 1) := by decide +kernel
theorem dX0_threadsOf_47 : decode cX0_threadsOf 47 = .ok (.iinc 2 1, 3) := by decide +kernel
theorem dX0_threadsOf_50 : decode cX0_threadsOf 50 = .ok (.iinc 4 1, 3) := by decide +kernel
theorem dX0_threadsOf_53 : decode cX0_threadsOf 53 = .ok (.goto (-42), 3) := by decide +kernel
theorem dX0_threadsOf_56 : decode cX0_threadsOf 56 = .ok (.iload_n 2, 1) := by decide +kernel
theorem dX0_threadsOf_57 : decode cX0_threadsOf 57 = .ok (.ireturn, 1) := by decide +kernel
set_option maxRecDepth 20000 in
theorem ggX0_topicsIn_X0_requireThread : GoodIn wsX0_topicsIn wsX0_requireThread := goodIn_ca (goodIn_r _ [6, 7, 8, 9, 31, 32, 33, 34, 35, 36, 37, 38, 39, 40] (by decide +kernel) (by decide +kernel)) (goodIn_sub (fun _ h => List.mem_cons_of_mem _ (List.mem_append_right _ h)) (by decide +kernel))
set_option maxRecDepth 20000 in
theorem gX0_topicsIn_X0_requireThread : GoodIn wsX0_topicsIn (wsV RX0 143 RX0 yX0_requireThread wsX0_requireThread) := goodIn_app (goodIn_of _ (by decide +kernel)) ggX0_topicsIn_X0_requireThread
set_option maxRecDepth 20000 in
theorem ggX0_topicsIn_X0_threadOfWord : GoodIn wsX0_topicsIn wsX0_threadOfWord := goodIn_r _ [13, 14, 15, 16, 5, 17, 31, 32, 33, 34, 35, 36, 37, 38, 39, 40] (by decide +kernel) (by decide +kernel)
set_option maxRecDepth 20000 in
theorem gX0_topicsIn_X0_threadOfWord : GoodIn wsX0_topicsIn (wsV RX0 140 RX0 yX0_threadOfWord wsX0_threadOfWord) := goodIn_app (goodIn_of _ (by decide +kernel)) ggX0_topicsIn_X0_threadOfWord
set_option maxRecDepth 20000 in
theorem ggX0_topicsIn_X0_topicOfWord : GoodIn wsX0_topicsIn wsX0_topicOfWord := goodIn_r _ [21, 22, 23, 15, 16, 5, 17, 31, 32, 33, 34, 35, 36, 37, 38, 39, 40] (by decide +kernel) (by decide +kernel)
set_option maxRecDepth 20000 in
theorem gX0_topicsIn_X0_topicOfWord : GoodIn wsX0_topicsIn (wsV RX0 93 RX0 yX0_topicOfWord wsX0_topicOfWord) := goodIn_app (goodIn_of _ (by decide +kernel)) ggX0_topicsIn_X0_topicOfWord
set_option maxRecDepth 20000 in
theorem ggX0_topicsIn_J6_bitCount_0f7a4 : GoodIn wsX0_topicsIn wsJ6_bitCount_0f7a4 := goodIn_r _ [27, 28, 29, 30] (by decide +kernel) (by decide +kernel)
set_option maxRecDepth 20000 in
theorem gX0_topicsIn_J6_bitCount_0f7a4 : GoodIn wsX0_topicsIn (va_wsS RX0 149 yJ6_bitCount_0f7a4 wsJ6_bitCount_0f7a4) := goodIn_app (goodIn_of _ (by decide +kernel)) ggX0_topicsIn_J6_bitCount_0f7a4
theorem dX0_topicsIn_0 : decode cX0_topicsIn 0 = .ok (.aload_n 0, 1) := by decide +kernel
theorem dX0_topicsIn_1 : decode cX0_topicsIn 1 = .ok (.iload_n 1, 1) := by decide +kernel
theorem dX0_topicsIn_2 : decode cX0_topicsIn 2 = .ok (.invokevirtual 143, 3) := by decide +kernel
theorem dX0_topicsIn_5 : decode cX0_topicsIn 5 = .ok (.iconst 0, 1) := by decide +kernel
theorem dX0_topicsIn_6 : decode cX0_topicsIn 6 = .ok (.istore_n 2, 1) := by decide +kernel
theorem dX0_topicsIn_7 : decode cX0_topicsIn 7 = .ok (.iconst 0, 1) := by decide +kernel
theorem dX0_topicsIn_8 : decode cX0_topicsIn 8 = .ok (.istore_n 3, 1) := by decide +kernel
theorem dX0_topicsIn_9 : decode cX0_topicsIn 9 = .ok (.iload_n 3, 1) := by decide +kernel
theorem dX0_topicsIn_10 : decode cX0_topicsIn 10 = .ok (.aload_n 0, 1) := by decide +kernel
theorem dX0_topicsIn_11 : decode cX0_topicsIn 11 = .ok (.getfield 116, 3) := by decide +kernel
theorem dX0_topicsIn_14 : decode cX0_topicsIn 14 = .ok (.if_icmp .ge 28, 3) := by decide +kernel
theorem dX0_topicsIn_17 : decode cX0_topicsIn 17 = .ok (.aload_n 0, 1) := by decide +kernel
theorem dX0_topicsIn_18 : decode cX0_topicsIn 18 = .ok (.iload_n 3, 1) := by decide +kernel
theorem dX0_topicsIn_19 : decode cX0_topicsIn 19 = .ok (.invokevirtual 140, 3) := by decide +kernel
theorem dX0_topicsIn_22 : decode cX0_topicsIn 22 = .ok (.iload_n 1, 1) := by decide +kernel
theorem dX0_topicsIn_23 : decode cX0_topicsIn 23 = .ok (.if_icmp .ne 13, 3) := by decide +kernel
theorem dX0_topicsIn_26 : decode cX0_topicsIn 26 = .ok (.iload_n 2, 1) := by decide +kernel
theorem dX0_topicsIn_27 : decode cX0_topicsIn 27 = .ok (.iconst 1, 1) := by decide +kernel
theorem dX0_topicsIn_28 : decode cX0_topicsIn 28 = .ok (.aload_n 0, 1) := by decide +kernel
theorem dX0_topicsIn_29 : decode cX0_topicsIn 29 = .ok (.iload_n 3, 1) := by decide +kernel
theorem dX0_topicsIn_30 : decode cX0_topicsIn 30 = .ok (.invokevirtual 93, 3) := by decide +kernel
theorem dX0_topicsIn_33 : decode cX0_topicsIn 33 = .ok (.ishl, 1) := by decide +kernel
theorem dX0_topicsIn_34 : decode cX0_topicsIn 34 = .ok (.ior, 1) := by decide +kernel
theorem dX0_topicsIn_35 : decode cX0_topicsIn 35 = .ok (.istore_n 2, 1) := by decide +kernel
theorem dX0_topicsIn_36 : decode cX0_topicsIn 36 = .ok (.iinc 3 1, 3) := by decide +kernel
theorem dX0_topicsIn_39 : decode cX0_topicsIn 39 = .ok (.goto (-30), 3) := by decide +kernel
theorem dX0_topicsIn_42 : decode cX0_topicsIn 42 = .ok (.iload_n 2, 1) := by decide +kernel
theorem dX0_topicsIn_43 : decode cX0_topicsIn 43 = .ok (.invokestatic 149, 3) := by decide +kernel
theorem dX0_topicsIn_46 : decode cX0_topicsIn 46 = .ok (.ireturn, 1) := by decide +kernel
set_option maxRecDepth 20000 in
theorem ggX0_costOfMending_X0_requireGap : GoodIn wsX0_costOfMending wsX0_requireGap := goodIn_ca (goodIn_r _ [5, 6, 7, 8, 9, 10, 4, 11, 12, 68, 69, 70, 71, 72, 73, 74, 75, 76, 77] (by decide +kernel) (by decide +kernel)) (goodIn_sub (fun _ h => List.mem_cons_of_mem _ (List.mem_append_right _ h)) (by decide +kernel))
set_option maxRecDepth 20000 in
theorem gX0_costOfMending_X0_requireGap : GoodIn wsX0_costOfMending (wsV RX0 72 RX0 yX0_requireGap wsX0_requireGap) := goodIn_app (goodIn_of _ (by decide +kernel)) ggX0_costOfMending_X0_requireGap
set_option maxRecDepth 20000 in
theorem ggX0_costOfMending_X0_mendingCost : GoodIn wsX0_costOfMending wsX0_mendingCost := goodIn_r _ [16, 17, 18, 19, 20, 21, 22, 23, 4, 24, 25, 26, 27, 28, 29, 30, 31, 32, 33, 34, 35, 36, 37, 38, 39, 40, 41, 42, 43, 44, 45, 46, 47, 48, 49, 50, 51, 52, 53, 54, 55, 56, 57, 58, 59, 60, 61, 62, 63, 64, 65, 66, 67, 68, 69, 70, 71, 72, 73, 74, 75, 76, 77] (by decide +kernel) (by decide +kernel)
set_option maxRecDepth 20000 in
theorem gX0_costOfMending_X0_mendingCost : GoodIn wsX0_costOfMending (wsV RX0 154 RX0 yX0_mendingCost wsX0_mendingCost) := goodIn_app (goodIn_of _ (by decide +kernel)) ggX0_costOfMending_X0_mendingCost
theorem dX0_costOfMending_0 : decode cX0_costOfMending 0 = .ok (.aload_n 0, 1) := by decide +kernel
theorem dX0_costOfMending_1 : decode cX0_costOfMending 1 = .ok (.iload_n 1, 1) := by decide +kernel
theorem dX0_costOfMending_2 : decode cX0_costOfMending 2 = .ok (.invokevirtual 72, 3) := by decide +kernel
theorem dX0_costOfMending_5 : decode cX0_costOfMending 5 = .ok (.aload_n 0, 1) := by decide +kernel
theorem dX0_costOfMending_6 : decode cX0_costOfMending 6 = .ok (.iload_n 1, 1) := by decide +kernel
theorem dX0_costOfMending_7 : decode cX0_costOfMending 7 = .ok (.invokevirtual 154, 3) := by decide +kernel
theorem dX0_costOfMending_10 : decode cX0_costOfMending 10 = .ok (.ireturn, 1) := by decide +kernel
set_option maxRecDepth 20000 in
theorem ggX0_costOfAll_X0_gapCount : GoodIn wsX0_costOfAll wsX0_gapCount := goodIn_r _ [5, 6, 62, 63, 64, 65, 66, 67, 68, 69, 70, 71] (by decide +kernel) (by decide +kernel)
set_option maxRecDepth 20000 in
theorem gX0_costOfAll_X0_gapCount : GoodIn wsX0_costOfAll (wsV RX0 157 RX0 yX0_gapCount wsX0_gapCount) := goodIn_app (goodIn_of _ (by decide +kernel)) ggX0_costOfAll_X0_gapCount
set_option maxRecDepth 20000 in
theorem ggX0_costOfAll_X0_mendingCost : GoodIn wsX0_costOfAll wsX0_mendingCost := goodIn_r _ [10, 11, 12, 13, 14, 15, 16, 17, 4, 18, 19, 20, 21, 22, 23, 24, 25, 26, 27, 28, 29, 30, 31, 32, 33, 34, 35, 36, 37, 38, 39, 40, 41, 42, 43, 44, 45, 46, 47, 48, 49, 50, 51, 52, 53, 54, 55, 56, 57, 58, 59, 60, 61, 62, 63, 64, 65, 66, 67, 68, 69, 70, 71] (by decide +kernel) (by decide +kernel)
set_option maxRecDepth 20000 in
theorem gX0_costOfAll_X0_mendingCost : GoodIn wsX0_costOfAll (wsV RX0 154 RX0 yX0_mendingCost wsX0_mendingCost) := goodIn_app (goodIn_of _ (by decide +kernel)) ggX0_costOfAll_X0_mendingCost
theorem dX0_costOfAll_0 : decode cX0_costOfAll 0 = .ok (.iconst 0, 1) := by decide +kernel
theorem dX0_costOfAll_1 : decode cX0_costOfAll 1 = .ok (.istore_n 1, 1) := by decide +kernel
theorem dX0_costOfAll_2 : decode cX0_costOfAll 2 = .ok (.iconst 0, 1) := by decide +kernel
theorem dX0_costOfAll_3 : decode cX0_costOfAll 3 = .ok (.istore_n 2, 1) := by decide +kernel
theorem dX0_costOfAll_4 : decode cX0_costOfAll 4 = .ok (.iload_n 2, 1) := by decide +kernel
theorem dX0_costOfAll_5 : decode cX0_costOfAll 5 = .ok (.aload_n 0, 1) := by decide +kernel
theorem dX0_costOfAll_6 : decode cX0_costOfAll 6 = .ok (.invokevirtual 157, 3) := by decide +kernel
theorem dX0_costOfAll_9 : decode cX0_costOfAll 9 = .ok (.if_icmp .ge 17, 3) := by decide +kernel
theorem dX0_costOfAll_12 : decode cX0_costOfAll 12 = .ok (.iload_n 1, 1) := by decide +kernel
theorem dX0_costOfAll_13 : decode cX0_costOfAll 13 = .ok (.aload_n 0, 1) := by decide +kernel
theorem dX0_costOfAll_14 : decode cX0_costOfAll 14 = .ok (.iload_n 2, 1) := by decide +kernel
theorem dX0_costOfAll_15 : decode cX0_costOfAll 15 = .ok (.invokevirtual 154, 3) := by decide +kernel
theorem dX0_costOfAll_18 : decode cX0_costOfAll 18 = .ok (.iadd, 1) := by decide +kernel
theorem dX0_costOfAll_19 : decode cX0_costOfAll 19 = .ok (.istore_n 1, 1) := by decide +kernel
theorem dX0_costOfAll_20 : decode cX0_costOfAll 20 = .ok (.iinc 2 1, 3) := by decide +kernel
theorem dX0_costOfAll_23 : decode cX0_costOfAll 23 = .ok (.goto (-19), 3) := by decide +kernel
theorem dX0_costOfAll_26 : decode cX0_costOfAll 26 = .ok (.iload_n 1, 1) := by decide +kernel
theorem dX0_costOfAll_27 : decode cX0_costOfAll 27 = .ok (.ireturn, 1) := by decide +kernel
set_option maxRecDepth 20000 in
theorem ggX0_meanStrain_X0_gapCount : GoodIn wsX0_meanStrain wsX0_gapCount := goodIn_r _ [5, 6, 34, 35, 36, 37, 38, 39, 40, 41, 42, 43] (by decide +kernel) (by decide +kernel)
set_option maxRecDepth 20000 in
theorem gX0_meanStrain_X0_gapCount : GoodIn wsX0_meanStrain (wsV RX0 157 RX0 yX0_gapCount wsX0_gapCount) := goodIn_app (goodIn_of _ (by decide +kernel)) ggX0_meanStrain_X0_gapCount
set_option maxRecDepth 20000 in
theorem ggX0_meanStrain_X0_strainOfGap : GoodIn wsX0_meanStrain wsX0_strainOfGap := goodIn_r _ [10, 11, 12, 13, 4, 14, 15, 16, 17, 18, 19, 20, 21, 22, 23, 24, 25, 26, 27, 28, 29, 30, 31, 32, 33, 34, 35, 36, 37, 38, 39, 40, 41, 42, 43] (by decide +kernel) (by decide +kernel)
set_option maxRecDepth 20000 in
theorem gX0_meanStrain_X0_strainOfGap : GoodIn wsX0_meanStrain (wsV RX0 128 RX0 yX0_strainOfGap wsX0_strainOfGap) := goodIn_app (goodIn_of _ (by decide +kernel)) ggX0_meanStrain_X0_strainOfGap
theorem dX0_meanStrain_0 : decode cX0_meanStrain 0 = .ok (.aload_n 0, 1) := by decide +kernel
theorem dX0_meanStrain_1 : decode cX0_meanStrain 1 = .ok (.invokevirtual 157, 3) := by decide +kernel
theorem dX0_meanStrain_4 : decode cX0_meanStrain 4 = .ok (.istore_n 1, 1) := by decide +kernel
theorem dX0_meanStrain_5 : decode cX0_meanStrain 5 = .ok (.iload_n 1, 1) := by decide +kernel
theorem dX0_meanStrain_6 : decode cX0_meanStrain 6 = .ok (.ifCond .ne 5, 3) := by decide +kernel
theorem dX0_meanStrain_9 : decode cX0_meanStrain 9 = .ok (.dconst 0, 1) := by decide +kernel
theorem dX0_meanStrain_10 : decode cX0_meanStrain 10 = .ok (.dreturn, 1) := by decide +kernel
theorem dX0_meanStrain_11 : decode cX0_meanStrain 11 = .ok (.iconst 0, 1) := by decide +kernel
theorem dX0_meanStrain_12 : decode cX0_meanStrain 12 = .ok (.istore_n 2, 1) := by decide +kernel
theorem dX0_meanStrain_13 : decode cX0_meanStrain 13 = .ok (.iconst 0, 1) := by decide +kernel
theorem dX0_meanStrain_14 : decode cX0_meanStrain 14 = .ok (.istore_n 3, 1) := by decide +kernel
theorem dX0_meanStrain_15 : decode cX0_meanStrain 15 = .ok (.iload_n 3, 1) := by decide +kernel
theorem dX0_meanStrain_16 : decode cX0_meanStrain 16 = .ok (.iload_n 1, 1) := by decide +kernel
