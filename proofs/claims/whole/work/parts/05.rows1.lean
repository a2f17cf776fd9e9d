theorem dX0_init_0 : decode cX0_init 0 = .ok (.aload_n 0, 1) := by decide +kernel
theorem dX0_init_1 : decode cX0_init 1 = .ok (.invokespecial 1, 3) := by decide +kernel
theorem dX0_init_4 : decode cX0_init 4 = .ok (.aload_n 0, 1) := by decide +kernel
theorem dX0_init_5 : decode cX0_init 5 = .ok (.bipush 24, 2) := by decide +kernel
theorem dX0_init_7 : decode cX0_init 7 = .ok (.newarray .int, 2) := by decide +kernel
theorem dX0_init_9 : decode cX0_init 9 = .ok (.putfield 9, 3) := by decide +kernel
theorem dX0_init_12 : decode cX0_init 12 = .ok (.aload_n 0, 1) := by decide +kernel
theorem dX0_init_13 : decode cX0_init 13 = .ok (.bipush 24, 2) := by decide +kernel
theorem dX0_init_15 : decode cX0_init 15 = .ok (.newarray .int, 2) := by decide +kernel
theorem dX0_init_17 : decode cX0_init 17 = .ok (.putfield 13, 3) := by decide +kernel
theorem dX0_init_20 : decode cX0_init 20 = .ok (.aload_n 0, 1) := by decide +kernel
theorem dX0_init_21 : decode cX0_init 21 = .ok (.bipush 24, 2) := by decide +kernel
theorem dX0_init_23 : decode cX0_init 23 = .ok (.newarray .int, 2) := by decide +kernel
theorem dX0_init_25 : decode cX0_init 25 = .ok (.putfield 16, 3) := by decide +kernel
theorem dX0_init_28 : decode cX0_init 28 = .ok (.aload_n 0, 1) := by decide +kernel
theorem dX0_init_29 : decode cX0_init 29 = .ok (.bipush 24, 2) := by decide +kernel
theorem dX0_init_31 : decode cX0_init 31 = .ok (.newarray .int, 2) := by decide +kernel
theorem dX0_init_33 : decode cX0_init 33 = .ok (.putfield 19, 3) := by decide +kernel
theorem dX0_init_36 : decode cX0_init 36 = .ok (.aload_n 0, 1) := by decide +kernel
theorem dX0_init_37 : decode cX0_init 37 = .ok (.bipush 24, 2) := by decide +kernel
theorem dX0_init_39 : decode cX0_init 39 = .ok (.newarray .int, 2) := by decide +kernel
theorem dX0_init_41 : decode cX0_init 41 = .ok (.putfield 22, 3) := by decide +kernel
theorem dX0_init_44 : decode cX0_init 44 = .ok (.aload_n 0, 1) := by decide +kernel
theorem dX0_init_45 : decode cX0_init 45 = .ok (.bipush 30, 2) := by decide +kernel
theorem dX0_init_47 : decode cX0_init 47 = .ok (.putfield 25, 3) := by decide +kernel
theorem dX0_init_50 : decode cX0_init 50 = .ok (.return_, 1) := by decide +kernel
set_option maxRecDepth 20000 in
theorem ggX0_say_X0_requireSpeaker : GoodIn wsX0_say wsX0_requireSpeaker := goodIn_ca (goodIn_r _ [4, 5, 6] (by decide +kernel) (by decide +kernel)) (goodIn_sub (fun _ h => List.mem_cons_of_mem _ (List.mem_append_left _ (List.mem_append_left _ (List.mem_append_right _ h)))) (by decide +kernel))
set_option maxRecDepth 20000 in
theorem gX0_say_X0_requireSpeaker : GoodIn wsX0_say (va_wsS RX0 29 yX0_requireSpeaker wsX0_requireSpeaker) := goodIn_app (goodIn_of _ (by decide +kernel)) ggX0_say_X0_requireSpeaker
set_option maxRecDepth 20000 in
theorem ggX0_say_X0_requireTopic : GoodIn wsX0_say wsX0_requireTopic := goodIn_ca (goodIn_r _ [9, 10, 11] (by decide +kernel) (by decide +kernel)) (goodIn_sub (fun _ h => List.mem_cons_of_mem _ (List.mem_append_left _ (List.mem_append_right _ h))) (by decide +kernel))
set_option maxRecDepth 20000 in
theorem gX0_say_X0_requireTopic : GoodIn wsX0_say (va_wsS RX0 33 yX0_requireTopic wsX0_requireTopic) := goodIn_app (goodIn_of _ (by decide +kernel)) ggX0_say_X0_requireTopic
set_option maxRecDepth 20000 in
theorem ggX0_say_X0_requireRoom : GoodIn wsX0_say wsX0_requireRoom := goodIn_ca (goodIn_r _ [15, 16, 17, 18, 92, 93, 94, 95, 96, 97, 98, 99, 100, 101] (by decide +kernel) (by decide +kernel)) (goodIn_sub (fun _ h => List.mem_cons_of_mem _ (List.mem_append_right _ h)) (by decide +kernel))
set_option maxRecDepth 20000 in
theorem gX0_say_X0_requireRoom : GoodIn wsX0_say (wsV RX0 36 RX0 yX0_requireRoom wsX0_requireRoom) := goodIn_app (goodIn_of _ (by decide +kernel)) ggX0_say_X0_requireRoom
set_option maxRecDepth 20000 in
theorem ggX0_say_X0_append : GoodIn wsX0_say wsX0_append := goodIn_r _ [22, 18, 23, 24, 25, 3, 26, 27, 28, 29, 30, 31, 32, 33, 34, 35, 36, 37, 38, 39, 40, 41, 42, 43, 44, 45, 46, 47, 48, 49, 50, 51, 52, 53, 54, 55, 56, 57, 58, 59, 60, 61, 62, 63, 64, 65, 66, 67, 68, 69, 70, 71, 72, 73, 74, 75, 76, 77, 78, 79, 80, 81, 82, 83, 84, 85, 86, 87, 88, 89, 90, 91, 92, 93, 94, 95, 96, 97, 98, 99, 100, 101] (by decide +kernel) (by decide +kernel)
set_option maxRecDepth 20000 in
theorem gX0_say_X0_append : GoodIn wsX0_say (wsV RX0 39 RX0 yX0_append wsX0_append) := goodIn_app (goodIn_of _ (by decide +kernel)) ggX0_say_X0_append
theorem dX0_say_0 : decode cX0_say 0 = .ok (.iload_n 1, 1) := by decide +kernel
theorem dX0_say_1 : decode cX0_say 1 = .ok (.invokestatic 29, 3) := by decide +kernel
theorem dX0_say_4 : decode cX0_say 4 = .ok (.iload_n 2, 1) := by decide +kernel
theorem dX0_say_5 : decode cX0_say 5 = .ok (.invokestatic 33, 3) := by decide +kernel
theorem dX0_say_8 : decode cX0_say 8 = .ok (.aload_n 0, 1) := by decide +kernel
theorem dX0_say_9 : decode cX0_say 9 = .ok (.invokevirtual 36, 3) := by decide +kernel
theorem dX0_say_12 : decode cX0_say 12 = .ok (.aload_n 0, 1) := by decide +kernel
theorem dX0_say_13 : decode cX0_say 13 = .ok (.iload_n 1, 1) := by decide +kernel
theorem dX0_say_14 : decode cX0_say 14 = .ok (.iload_n 2, 1) := by decide +kernel
theorem dX0_say_15 : decode cX0_say 15 = .ok (.invokevirtual 39, 3) := by decide +kernel
theorem dX0_say_18 : decode cX0_say 18 = .ok (.ireturn, 1) := by decide +kernel
set_option maxRecDepth 20000 in
theorem ggX0_cough_X0_requireSpeaker : GoodIn wsX0_cough wsX0_requireSpeaker := goodIn_ca (goodIn_r _ [4, 5, 6] (by decide +kernel) (by decide +kernel)) (goodIn_sub (fun _ h => List.mem_cons_of_mem _ (List.mem_append_left _ (List.mem_append_right _ h))) (by decide +kernel))
set_option maxRecDepth 20000 in
theorem gX0_cough_X0_requireSpeaker : GoodIn wsX0_cough (va_wsS RX0 29 yX0_requireSpeaker wsX0_requireSpeaker) := goodIn_app (goodIn_of _ (by decide +kernel)) ggX0_cough_X0_requireSpeaker
set_option maxRecDepth 20000 in
theorem ggX0_cough_X0_requireRoom : GoodIn wsX0_cough wsX0_requireRoom := goodIn_ca (goodIn_r _ [10, 11, 12, 13, 87, 88, 89, 90, 91, 92, 93, 94, 95, 96] (by decide +kernel) (by decide +kernel)) (goodIn_sub (fun _ h => List.mem_cons_of_mem _ (List.mem_append_right _ h)) (by decide +kernel))
set_option maxRecDepth 20000 in
theorem gX0_cough_X0_requireRoom : GoodIn wsX0_cough (wsV RX0 36 RX0 yX0_requireRoom wsX0_requireRoom) := goodIn_app (goodIn_of _ (by decide +kernel)) ggX0_cough_X0_requireRoom
set_option maxRecDepth 20000 in
theorem ggX0_cough_X0_append : GoodIn wsX0_cough wsX0_append := goodIn_r _ [17, 13, 18, 19, 20, 3, 21, 22, 23, 24, 25, 26, 27, 28, 29, 30, 31, 32, 33, 34, 35, 36, 37, 38, 39, 40, 41, 42, 43, 44, 45, 46, 47, 48, 49, 50, 51, 52, 53, 54, 55, 56, 57, 58, 59, 60, 61, 62, 63, 64, 65, 66, 67, 68, 69, 70, 71, 72, 73, 74, 75, 76, 77, 78, 79, 80, 81, 82, 83, 84, 85, 86, 87, 88, 89, 90, 91, 92, 93, 94, 95, 96] (by decide +kernel) (by decide +kernel)
set_option maxRecDepth 20000 in
theorem gX0_cough_X0_append : GoodIn wsX0_cough (wsV RX0 39 RX0 yX0_append wsX0_append) := goodIn_app (goodIn_of _ (by decide +kernel)) ggX0_cough_X0_append
theorem dX0_cough_0 : decode cX0_cough 0 = .ok (.iload_n 1, 1) := by decide +kernel
theorem dX0_cough_1 : decode cX0_cough 1 = .ok (.invokestatic 29, 3) := by decide +kernel
theorem dX0_cough_4 : decode cX0_cough 4 = .ok (.aload_n 0, 1) := by decide +kernel
theorem dX0_cough_5 : decode cX0_cough 5 = .ok (.invokevirtual 36, 3) := by decide +kernel
theorem dX0_cough_8 : decode cX0_cough 8 = .ok (.aload_n 0, 1) := by decide +kernel
theorem dX0_cough_9 : decode cX0_cough 9 = .ok (.iload_n 1, 1) := by decide +kernel
theorem dX0_cough_10 : decode cX0_cough 10 = .ok (.iconst (-1), 1) := by decide +kernel
theorem dX0_cough_11 : decode cX0_cough 11 = .ok (.invokevirtual 39, 3) := by decide +kernel
theorem dX0_cough_14 : decode cX0_cough 14 = .ok (.ireturn, 1) := by decide +kernel
set_option maxRecDepth 20000 in
theorem ggX0_removeCough_X0_requirePlace : GoodIn wsX0_removeCough wsX0_requirePlace := goodIn_ca (goodIn_r _ [8, 9, 10, 3, 94, 95, 96, 97, 98, 99, 100, 101, 102, 103] (by decide +kernel) (by decide +kernel)) (goodIn_sub (fun _ h => List.mem_cons_of_mem _ (List.mem_append_right _ h)) (by decide +kernel))
set_option maxRecDepth 20000 in
theorem gX0_removeCough_X0_requirePlace : GoodIn wsX0_removeCough (wsV RX0 43 RX0 yX0_requirePlace wsX0_requirePlace) := goodIn_app (goodIn_of _ (by decide +kernel)) ggX0_removeCough_X0_requirePlace
set_option maxRecDepth 20000 in
theorem ggX0_removeCough_X0_coughStandsAt : GoodIn wsX0_removeCough wsX0_coughStandsAt := goodIn_r _ [14, 15, 16, 17, 7, 18, 94, 95, 96, 97, 98, 99, 100, 101, 102, 103] (by decide +kernel) (by decide +kernel)
set_option maxRecDepth 20000 in
theorem gX0_removeCough_X0_coughStandsAt : GoodIn wsX0_removeCough (wsV RX0 46 RX0 yX0_coughStandsAt wsX0_coughStandsAt) := goodIn_app (goodIn_of _ (by decide +kernel)) ggX0_removeCough_X0_coughStandsAt
set_option maxRecDepth 20000 in
theorem ggX0_removeCough_X0_requirePatience : GoodIn wsX0_removeCough wsX0_requirePatience := goodIn_ca (goodIn_r _ [22, 1, 2, 23, 94, 95, 96, 97, 98, 99, 100, 101, 102, 103] (by decide +kernel) (by decide +kernel)) (goodIn_sub (fun _ h => List.mem_cons_of_mem _ (List.mem_append_left _ (List.mem_append_right _ h))) (by decide +kernel))
set_option maxRecDepth 20000 in
theorem gX0_removeCough_X0_requirePatience : GoodIn wsX0_removeCough (wsV RX0 57 RX0 yX0_requirePatience wsX0_requirePatience) := goodIn_app (goodIn_of _ (by decide +kernel)) ggX0_removeCough_X0_requirePatience
set_option maxRecDepth 20000 in
theorem ggX0_removeCough_X0_pay : GoodIn wsX0_removeCough wsX0_pay := goodIn_r _ [27, 23, 28, 94, 95, 96, 97, 98, 99, 100, 101, 102, 103] (by decide +kernel) (by decide +kernel)
set_option maxRecDepth 20000 in
theorem gX0_removeCough_X0_pay : GoodIn wsX0_removeCough (wsV RX0 60 RX0 yX0_pay wsX0_pay) := goodIn_app (goodIn_of _ (by decide +kernel)) ggX0_removeCough_X0_pay
set_option maxRecDepth 20000 in
theorem ggX0_removeCough_X0_moveUpBehind : GoodIn wsX0_removeCough wsX0_moveUpBehind := goodIn_r _ [32, 3, 33, 34, 35, 7, 36, 37, 15, 38, 16, 17, 18, 39, 40, 41, 94, 95, 96, 97, 98, 99, 100, 101, 102, 103] (by decide +kernel) (by decide +kernel)
set_option maxRecDepth 20000 in
theorem gX0_removeCough_X0_moveUpBehind : GoodIn wsX0_removeCough (wsV RX0 63 RX0 yX0_moveUpBehind wsX0_moveUpBehind) := goodIn_app (goodIn_of _ (by decide +kernel)) ggX0_removeCough_X0_moveUpBehind
set_option maxRecDepth 20000 in
theorem ggX0_removeCough_X0_recount : GoodIn wsX0_removeCough wsX0_recount := goodIn_r _ [45, 46, 3, 47, 48, 49, 11, 12, 13, 7, 14, 15, 16, 17, 18, 39, 40, 41, 50, 51, 52, 53, 54, 55, 56, 57, 38, 58, 59, 60, 61, 62, 63, 64, 65, 66, 67, 68, 69, 70, 71, 72, 73, 74, 75, 76, 77, 78, 79, 80, 81, 82, 83, 84, 85, 86, 87, 37, 88, 89, 90, 91, 92, 93, 94, 95, 96, 97, 98, 99, 100, 101, 102, 103] (by decide +kernel) (by decide +kernel)
set_option maxRecDepth 20000 in
theorem gX0_removeCough_X0_recount : GoodIn wsX0_removeCough (wsV RX0 66 RX0 yX0_recount wsX0_recount) := goodIn_app (goodIn_of _ (by decide +kernel)) ggX0_removeCough_X0_recount
theorem dX0_removeCough_0 : decode cX0_removeCough 0 = .ok (.aload_n 0, 1) := by decide +kernel
theorem dX0_removeCough_1 : decode cX0_removeCough 1 = .ok (.iload_n 1, 1) := by decide +kernel
theorem dX0_removeCough_2 : decode cX0_removeCough 2 = .ok (.invokevirtual 43, 3) := by decide +kernel
theorem dX0_removeCough_5 : decode cX0_removeCough 5 = .ok (.aload_n 0, 1) := by decide +kernel
theorem dX0_removeCough_6 : decode cX0_removeCough 6 = .ok (.iload_n 1, 1) := by decide +kernel
theorem dX0_removeCough_7 : decode cX0_removeCough 7 = .ok (.invokevirtual 46, 3) := by decide +kernel
theorem dX0_removeCough_10 : decode cX0_removeCough 10 = .ok (.ifCond .ne 13, 3) := by decide +kernel
theorem dX0_removeCough_13 : decode cX0_removeCough 13 = .ok (.new 50, 3) := by decide +kernel
theorem dX0_removeCough_16 : decode cX0_removeCough 16 = .ok (.dup, 1) := by decide +kernel
theorem dX0_removeCough_17 : decode cX0_removeCough 17 = .ok (.ldc 52, 2) := by decide +kernel
theorem dX0_removeCough_19 : decode cX0_removeCough 19 = .ok (.invokespecial 54, 3) := by decide +kernel
theorem dX0_removeCough_22 : decode cX0_removeCough 22 = .ok (.athrow, 1) := by decide +kernel
theorem dX0_removeCough_23 : decode cX0_removeCough 23 = .ok (.aload_n 0, 1) := by decide +kernel
theorem dX0_removeCough_24 : decode cX0_removeCough 24 = .ok (.iconst 1, 1) := by decide +kernel
theorem dX0_removeCough_25 : decode cX0_removeCough 25 = .ok (.invokevirtual 57, 3) := by decide +kernel
theorem dX0_removeCough_28 : decode cX0_removeCough 28 = .ok (.aload_n 0, 1) := by decide +kernel
theorem dX0_removeCough_29 : decode cX0_removeCough 29 = .ok (.iconst 1, 1) := by decide +kernel
theorem dX0_removeCough_30 : decode cX0_removeCough 30 = .ok (.invokevirtual 60, 3) := by decide +kernel
theorem dX0_removeCough_33 : decode cX0_removeCough 33 = .ok (.aload_n 0, 1) := by decide +kernel
theorem dX0_removeCough_34 : decode cX0_removeCough 34 = .ok (.iload_n 1, 1) := by decide +kernel
theorem dX0_removeCough_35 : decode cX0_removeCough 35 = .ok (.invokevirtual 63, 3) := by decide +kernel
theorem dX0_removeCough_38 : decode cX0_removeCough 38 = .ok (.aload_n 0, 1) := by decide +kernel
theorem dX0_removeCough_39 : decode cX0_removeCough 39 = .ok (.invokevirtual 66, 3) := by decide +kernel
theorem dX0_removeCough_42 : decode cX0_removeCough 42 = .ok (.aload_n 0, 1) := by decide +kernel
theorem dX0_removeCough_43 : decode cX0_removeCough 43 = .ok (.getfield 69, 3) := by decide +kernel
theorem dX0_removeCough_46 : decode cX0_removeCough 46 = .ok (.ireturn, 1) := by decide +kernel
set_option maxRecDepth 20000 in
theorem ggX0_tie_X0_requireGap : GoodIn wsX0_tie wsX0_requireGap := goodIn_ca (goodIn_r _ [8, 9, 10, 11, 12, 13, 7, 14, 15, 94, 95, 96, 97, 98, 99, 100, 101, 102, 103] (by decide +kernel) (by decide +kernel)) (goodIn_sub (fun _ h => List.mem_cons_of_mem _ (List.mem_append_left _ (List.mem_append_right _ h))) (by decide +kernel))
set_option maxRecDepth 20000 in
theorem gX0_tie_X0_requireGap : GoodIn wsX0_tie (wsV RX0 72 RX0 yX0_requireGap wsX0_requireGap) := goodIn_app (goodIn_of _ (by decide +kernel)) ggX0_tie_X0_requireGap
set_option maxRecDepth 20000 in
theorem ggX0_tie_X0_requireUntied : GoodIn wsX0_tie wsX0_requireUntied := goodIn_ca (goodIn_r _ [19, 20, 21, 22, 23, 24, 7, 25, 1, 2, 26, 27, 28, 94, 95, 96, 97, 98, 99, 100, 101, 102, 103] (by decide +kernel) (by decide +kernel)) (goodIn_sub (fun _ h => List.mem_cons_of_mem _ (List.mem_append_right _ h)) (by decide +kernel))
set_option maxRecDepth 20000 in
theorem gX0_tie_X0_requireUntied : GoodIn wsX0_tie (wsV RX0 75 RX0 yX0_requireUntied wsX0_requireUntied) := goodIn_app (goodIn_of _ (by decide +kernel)) ggX0_tie_X0_requireUntied
set_option maxRecDepth 20000 in
theorem ggX0_tie_X0_requirePatience : GoodIn wsX0_tie wsX0_requirePatience := goodIn_ca (goodIn_r _ [32, 20, 21, 33, 94, 95, 96, 97, 98, 99, 100, 101, 102, 103] (by decide +kernel) (by decide +kernel)) (goodIn_sub (fun _ h => List.mem_cons_of_mem _ (List.mem_append_right _ h)) (by decide +kernel))
set_option maxRecDepth 20000 in
theorem gX0_tie_X0_requirePatience : GoodIn wsX0_tie (wsV RX0 57 RX0 yX0_requirePatience wsX0_requirePatience) := goodIn_app (goodIn_of _ (by decide +kernel)) ggX0_tie_X0_requirePatience
set_option maxRecDepth 20000 in
theorem ggX0_tie_X0_pay : GoodIn wsX0_tie wsX0_pay := goodIn_r _ [37, 33, 38, 94, 95, 96, 97, 98, 99, 100, 101, 102, 103] (by decide +kernel) (by decide +kernel)
set_option maxRecDepth 20000 in
theorem gX0_tie_X0_pay : GoodIn wsX0_tie (wsV RX0 60 RX0 yX0_pay wsX0_pay) := goodIn_app (goodIn_of _ (by decide +kernel)) ggX0_tie_X0_pay
set_option maxRecDepth 20000 in
theorem ggX0_tie_X0_read : GoodIn wsX0_tie wsX0_read := goodIn_r _ [28] (by decide +kernel) (by decide +kernel)
set_option maxRecDepth 20000 in
theorem gX0_tie_X0_read : GoodIn wsX0_tie (va_wsS RX0 78 yX0_read wsX0_read) := goodIn_app (goodIn_of _ (by decide +kernel)) ggX0_tie_X0_read
set_option maxRecDepth 20000 in
theorem ggX0_tie_X0_write : GoodIn wsX0_tie wsX0_write := goodIn_r _ [41] (by decide +kernel) (by decide +kernel)
set_option maxRecDepth 20000 in
theorem gX0_tie_X0_write : GoodIn wsX0_tie (va_wsS RX0 82 yX0_write wsX0_write) := goodIn_app (goodIn_of _ (by decide +kernel)) ggX0_tie_X0_write
set_option maxRecDepth 20000 in
theorem ggX0_tie_X0_recount : GoodIn wsX0_tie wsX0_recount := goodIn_r _ [45, 15, 46, 2, 3, 47, 48, 49, 50, 7, 51, 52, 26, 27, 28, 39, 40, 41, 53, 54, 55, 56, 22, 23, 24, 25, 1, 57, 58, 59, 60, 61, 62, 63, 64, 65, 66, 67, 68, 69, 70, 71, 72, 73, 74, 75, 76, 77, 78, 79, 80, 81, 82, 83, 84, 85, 86, 87, 88, 89, 90, 91, 92, 93, 94, 95, 96, 97, 98, 99, 100, 101, 102, 103] (by decide +kernel) (by decide +kernel)
set_option maxRecDepth 20000 in
theorem gX0_tie_X0_recount : GoodIn wsX0_tie (wsV RX0 66 RX0 yX0_recount wsX0_recount) := goodIn_app (goodIn_of _ (by decide +kernel)) ggX0_tie_X0_recount
theorem dX0_tie_0 : decode cX0_tie 0 = .ok (.aload_n 0, 1) := by decide +kernel
theorem dX0_tie_1 : decode cX0_tie 1 = .ok (.iload_n 1, 1) := by decide +kernel
theorem dX0_tie_2 : decode cX0_tie 2 = .ok (.invokevirtual 72, 3) := by decide +kernel
theorem dX0_tie_5 : decode cX0_tie 5 = .ok (.aload_n 0, 1) := by decide +kernel
theorem dX0_tie_6 : decode cX0_tie 6 = .ok (.iload_n 1, 1) := by decide +kernel
theorem dX0_tie_7 : decode cX0_tie 7 = .ok (.invokevirtual 75, 3) := by decide +kernel
theorem dX0_tie_10 : decode cX0_tie 10 = .ok (.aload_n 0, 1) := by decide +kernel
theorem dX0_tie_11 : decode cX0_tie 11 = .ok (.iconst 3, 1) := by decide +kernel
theorem dX0_tie_12 : decode cX0_tie 12 = .ok (.invokevirtual 57, 3) := by decide +kernel
theorem dX0_tie_15 : decode cX0_tie 15 = .ok (.aload_n 0, 1) := by decide +kernel
theorem dX0_tie_16 : decode cX0_tie 16 = .ok (.iconst 3, 1) := by decide +kernel
theorem dX0_tie_17 : decode cX0_tie 17 = .ok (.invokevirtual 60, 3) := by decide +kernel
theorem dX0_tie_20 : decode cX0_tie 20 = .ok (.aload_n 0, 1) := by decide +kernel
theorem dX0_tie_21 : decode cX0_tie 21 = .ok (.getfield 16, 3) := by decide +kernel
theorem dX0_tie_24 : decode cX0_tie 24 = .ok (.aload_n 0, 1) := by decide +kernel
theorem dX0_tie_25 : decode cX0_tie 25 = .ok (.getfield 19, 3) := by decide +kernel
theorem dX0_tie_28 : decode cX0_tie 28 = .ok (.iload_n 1, 1) := by decide +kernel
theorem dX0_tie_29 : decode cX0_tie 29 = .ok (.invokestatic 78, 3) := by decide +kernel
theorem dX0_tie_32 : decode cX0_tie 32 = .ok (.iconst 1, 1) := by decide +kernel
theorem dX0_tie_33 : decode cX0_tie 33 = .ok (.invokestatic 82, 3) := by decide +kernel
theorem dX0_tie_36 : decode cX0_tie 36 = .ok (.aload_n 0, 1) := by decide +kernel
theorem dX0_tie_37 : decode cX0_tie 37 = .ok (.invokevirtual 66, 3) := by decide +kernel
theorem dX0_tie_40 : decode cX0_tie 40 = .ok (.aload_n 0, 1) := by decide +kernel
theorem dX0_tie_41 : decode cX0_tie 41 = .ok (.getfield 86, 3) := by decide +kernel
theorem dX0_tie_44 : decode cX0_tie 44 = .ok (.ireturn, 1) := by decide +kernel
set_option maxRecDepth 20000 in
theorem ggX0_splice_X0_requireGap : GoodIn wsX0_splice wsX0_requireGap := goodIn_ca (goodIn_r _ [6, 7, 8, 9, 10, 11, 5, 12, 13, 117, 118, 119, 120, 121, 122, 123, 124, 125, 126] (by decide +kernel) (by decide +kernel)) (goodIn_sub (fun _ h => List.mem_cons_of_mem _ (List.mem_append_left _ (List.mem_append_right _ h))) (by decide +kernel))
set_option maxRecDepth 20000 in
theorem gX0_splice_X0_requireGap : GoodIn wsX0_splice (wsV RX0 72 RX0 yX0_requireGap wsX0_requireGap) := goodIn_app (goodIn_of _ (by decide +kernel)) ggX0_splice_X0_requireGap
set_option maxRecDepth 20000 in
theorem ggX0_splice_X0_requireUntied : GoodIn wsX0_splice wsX0_requireUntied := goodIn_ca (goodIn_r _ [17, 18, 19, 20, 21, 22, 5, 23, 24, 1, 25, 26, 27, 117, 118, 119, 120, 121, 122, 123, 124, 125, 126] (by decide +kernel) (by decide +kernel)) (goodIn_sub (fun _ h => List.mem_cons_of_mem _ (List.mem_append_right _ h)) (by decide +kernel))
set_option maxRecDepth 20000 in
theorem gX0_splice_X0_requireUntied : GoodIn wsX0_splice (wsV RX0 75 RX0 yX0_requireUntied wsX0_requireUntied) := goodIn_app (goodIn_of _ (by decide +kernel)) ggX0_splice_X0_requireUntied
set_option maxRecDepth 20000 in
theorem ggX0_splice_X0_requireRoom : GoodIn wsX0_splice wsX0_requireRoom := goodIn_ca (goodIn_r _ [31, 18, 19, 32, 117, 118, 119, 120, 121, 122, 123, 124, 125, 126] (by decide +kernel) (by decide +kernel)) (goodIn_sub (fun _ h => List.mem_cons_of_mem _ (List.mem_append_right _ h)) (by decide +kernel))
set_option maxRecDepth 20000 in
theorem gX0_splice_X0_requireRoom : GoodIn wsX0_splice (wsV RX0 36 RX0 yX0_requireRoom wsX0_requireRoom) := goodIn_app (goodIn_of _ (by decide +kernel)) ggX0_splice_X0_requireRoom
set_option maxRecDepth 20000 in
theorem ggX0_splice_X0_requirePatience : GoodIn wsX0_splice wsX0_requirePatience := goodIn_ca (goodIn_r _ [36, 18, 19, 37, 117, 118, 119, 120, 121, 122, 123, 124, 125, 126] (by decide +kernel) (by decide +kernel)) (goodIn_sub (fun _ h => List.mem_cons_of_mem _ (List.mem_append_right _ h)) (by decide +kernel))
set_option maxRecDepth 20000 in
theorem gX0_splice_X0_requirePatience : GoodIn wsX0_splice (wsV RX0 57 RX0 yX0_requirePatience wsX0_requirePatience) := goodIn_app (goodIn_of _ (by decide +kernel)) ggX0_splice_X0_requirePatience
set_option maxRecDepth 20000 in
theorem ggX0_splice_X0_pay : GoodIn wsX0_splice wsX0_pay := goodIn_r _ [41, 37, 42, 117, 118, 119, 120, 121, 122, 123, 124, 125, 126] (by decide +kernel) (by decide +kernel)
set_option maxRecDepth 20000 in
theorem gX0_splice_X0_pay : GoodIn wsX0_splice (wsV RX0 60 RX0 yX0_pay wsX0_pay) := goodIn_app (goodIn_of _ (by decide +kernel)) ggX0_splice_X0_pay
set_option maxRecDepth 20000 in
theorem ggX0_splice_X0_speakerOfWord : GoodIn wsX0_splice wsX0_speakerOfWord := goodIn_r _ [46, 47, 1, 25, 26, 5, 27, 117, 118, 119, 120, 121, 122, 123, 124, 125, 126] (by decide +kernel) (by decide +kernel)
set_option maxRecDepth 20000 in
theorem gX0_splice_X0_speakerOfWord : GoodIn wsX0_splice (wsV RX0 89 RX0 yX0_speakerOfWord wsX0_speakerOfWord) := goodIn_app (goodIn_of _ (by decide +kernel)) ggX0_splice_X0_speakerOfWord
set_option maxRecDepth 20000 in
theorem ggX0_splice_X0_topicOfWord : GoodIn wsX0_splice wsX0_topicOfWord := goodIn_r _ [51, 52, 1, 25, 26, 5, 27, 117, 118, 119, 120, 121, 122, 123, 124, 125, 126] (by decide +kernel) (by decide +kernel)
set_option maxRecDepth 20000 in
theorem gX0_splice_X0_topicOfWord : GoodIn wsX0_splice (wsV RX0 93 RX0 yX0_topicOfWord wsX0_topicOfWord) := goodIn_app (goodIn_of _ (by decide +kernel)) ggX0_splice_X0_topicOfWord
set_option maxRecDepth 20000 in
theorem ggX0_splice_X0_topicBetween : GoodIn wsX0_splice wsX0_topicBetween := goodIn_r _ [55, 56, 57, 5, 58, 59, 60, 61, 62, 63, 64, 65, 66, 67, 68, 69] (by decide +kernel) (by decide +kernel)
set_option maxRecDepth 20000 in
theorem gX0_splice_X0_topicBetween : GoodIn wsX0_splice (va_wsS RX0 96 yX0_topicBetween wsX0_topicBetween) := goodIn_app (goodIn_of _ (by decide +kernel)) ggX0_splice_X0_topicBetween
set_option maxRecDepth 20000 in
theorem ggX0_splice_X0_read : GoodIn wsX0_splice wsX0_read := goodIn_r _ [27] (by decide +kernel) (by decide +kernel)
set_option maxRecDepth 20000 in
theorem gX0_splice_X0_read : GoodIn wsX0_splice (va_wsS RX0 78 yX0_read wsX0_read) := goodIn_app (goodIn_of _ (by decide +kernel)) ggX0_splice_X0_read
set_option maxRecDepth 20000 in
theorem ggX0_splice_X0_makeRoomAt : GoodIn wsX0_splice wsX0_makeRoomAt := goodIn_r _ [73, 32, 74, 75, 76, 5, 77, 47, 52, 24, 25, 26, 27, 78, 79, 80, 117, 118, 119, 120, 121, 122, 123, 124, 125, 126] (by decide +kernel) (by decide +kernel)
set_option maxRecDepth 20000 in
theorem gX0_splice_X0_makeRoomAt : GoodIn wsX0_splice (wsV RX0 99 RX0 yX0_makeRoomAt wsX0_makeRoomAt) := goodIn_app (goodIn_of _ (by decide +kernel)) ggX0_splice_X0_makeRoomAt
set_option maxRecDepth 20000 in
theorem ggX0_splice_X0_put : GoodIn wsX0_splice wsX0_put := goodIn_r _ [84, 47, 52, 24, 78, 79, 5, 80, 117, 118, 119, 120, 121, 122, 123, 124, 125, 126] (by decide +kernel) (by decide +kernel)
set_option maxRecDepth 20000 in
theorem gX0_splice_X0_put : GoodIn wsX0_splice (wsV RX0 102 RX0 yX0_put wsX0_put) := goodIn_app (goodIn_of _ (by decide +kernel)) ggX0_splice_X0_put
set_option maxRecDepth 20000 in
theorem ggX0_splice_X0_recount : GoodIn wsX0_splice wsX0_recount := goodIn_r _ [88, 13, 32, 1, 89, 90, 91, 92, 93, 5, 94, 52, 25, 26, 27, 78, 79, 80, 95, 96, 97, 98, 20, 21, 22, 23, 24, 99, 100, 101, 102, 48, 49, 50, 51, 56, 57, 58, 59, 60, 61, 62, 63, 64, 65, 103, 104, 105, 106, 107, 108, 109, 110, 43, 44, 45, 46, 47, 111, 112, 113, 114, 115, 116, 117, 118, 119, 120, 121, 122, 123, 124, 125, 126] (by decide +kernel) (by decide +kernel)
set_option maxRecDepth 20000 in
theorem gX0_splice_X0_recount : GoodIn wsX0_splice (wsV RX0 66 RX0 yX0_recount wsX0_recount) := goodIn_app (goodIn_of _ (by decide +kernel)) ggX0_splice_X0_recount
theorem dX0_splice_0 : decode cX0_splice 0 = .ok (.aload_n 0, 1) := by decide +kernel
theorem dX0_splice_1 : decode cX0_splice 1 = .ok (.iload_n 1, 1) := by decide +kernel
theorem dX0_splice_2 : decode cX0_splice 2 = .ok (.invokevirtual 72, 3) := by decide +kernel
theorem dX0_splice_5 : decode cX0_splice 5 = .ok (.aload_n 0, 1) := by decide +kernel
theorem dX0_splice_6 : decode cX0_splice 6 = .ok (.iload_n 1, 1) := by decide +kernel
theorem dX0_splice_7 : decode cX0_splice 7 = .ok (.invokevirtual 75, 3) := by decide +kernel
theorem dX0_splice_10 : decode cX0_splice 10 = .ok (.aload_n 0, 1) := by decide +kernel
theorem dX0_splice_11 : decode cX0_splice 11 = .ok (.invokevirtual 36, 3) := by decide +kernel
theorem dX0_splice_14 : decode cX0_splice 14 = .ok (.aload_n 0, 1) := by decide +kernel
theorem dX0_splice_15 : decode cX0_splice 15 = .ok (.iconst 2, 1) := by decide +kernel
theorem dX0_splice_16 : decode cX0_splice 16 = .ok (.invokevirtual 57, 3) := by decide +kernel
theorem dX0_splice_19 : decode cX0_splice 19 = .ok (.aload_n 0, 1) := by decide +kernel
theorem dX0_splice_20 : decode cX0_splice 20 = .ok (.iconst 2, 1) := by decide +kernel
theorem dX0_splice_21 : decode cX0_splice 21 = .ok (.invokevirtual 60, 3) := by decide +kernel
theorem dX0_splice_24 : decode cX0_splice 24 = .ok (.aload_n 0, 1) := by decide +kernel
theorem dX0_splice_25 : decode cX0_splice 25 = .ok (.iload_n 1, 1) := by decide +kernel
theorem dX0_splice_26 : decode cX0_splice 26 = .ok (.invokevirtual 89, 3) := by decide +kernel
theorem dX0_splice_29 : decode cX0_splice 29 = .ok (.istore_n 2, 1) := by decide +kernel
theorem dX0_splice_30 : decode cX0_splice 30 = .ok (.aload_n 0, 1) := by decide +kernel
theorem dX0_splice_31 : decode cX0_splice 31 = .ok (.iload_n 1, 1) := by decide +kernel
theorem dX0_splice_32 : decode cX0_splice 32 = .ok (.invokevirtual 93, 3) := by decide +kernel
theorem dX0_splice_35 : decode cX0_splice 35 = .ok (.aload_n 0, 1) := by decide +kernel
theorem dX0_splice_36 : decode cX0_splice 36 = .ok (.iload_n 1, 1) := by decide +kernel
theorem dX0_splice_37 : decode cX0_splice 37 = .ok (.iconst 1, 1) := by decide +kernel
theorem dX0_splice_38 : decode cX0_splice 38 = .ok (.iadd, 1) := by decide +kernel
theorem dX0_splice_39 : decode cX0_splice 39 = .ok (.invokevirtual 93, 3) := by decide +kernel
theorem dX0_splice_42 : decode cX0_splice 42 = .ok (.invokestatic 96, 3) := by decide +kernel
theorem dX0_splice_45 : decode cX0_splice 45 = .ok (.istore_n 3, 1) := by decide +kernel
theorem dX0_splice_46 : decode cX0_splice 46 = .ok (.aload_n 0, 1) := by decide +kernel
theorem dX0_splice_47 : decode cX0_splice 47 = .ok (.getfield 19, 3) := by decide +kernel
theorem dX0_splice_50 : decode cX0_splice 50 = .ok (.iload_n 1, 1) := by decide +kernel
theorem dX0_splice_51 : decode cX0_splice 51 = .ok (.invokestatic 78, 3) := by decide +kernel
theorem dX0_splice_54 : decode cX0_splice 54 = .ok (.iconst 1, 1) := by decide +kernel
theorem dX0_splice_55 : decode cX0_splice 55 = .ok (.iadd, 1) := by decide +kernel
theorem dX0_splice_56 : decode cX0_splice 56 = .ok (.istore 4, 2) := by decide +kernel
theorem dX0_splice_58 : decode cX0_splice 58 = .ok (.aload_n 0, 1) := by decide +kernel
theorem dX0_splice_59 : decode cX0_splice 59 = .ok (.iload 4, 2) := by decide +kernel
theorem dX0_splice_61 : decode cX0_splice 61 = .ok (.invokevirtual 99, 3) := by decide +kernel
theorem dX0_splice_64 : decode cX0_splice 64 = .ok (.aload_n 0, 1) := by decide +kernel
theorem dX0_splice_65 : decode cX0_splice 65 = .ok (.iload 4, 2) := by decide +kernel
theorem dX0_splice_67 : decode cX0_splice 67 = .ok (.iload_n 2, 1) := by decide +kernel
theorem dX0_splice_68 : decode cX0_splice 68 = .ok (.iload_n 3, 1) := by decide +kernel
theorem dX0_splice_69 : decode cX0_splice 69 = .ok (.invokevirtual 102, 3) := by decide +kernel
theorem dX0_splice_72 : decode cX0_splice 72 = .ok (.aload_n 0, 1) := by decide +kernel
theorem dX0_splice_73 : decode cX0_splice 73 = .ok (.invokevirtual 66, 3) := by decide +kernel
theorem dX0_splice_76 : decode cX0_splice 76 = .ok (.iload_n 3, 1) := by decide +kernel
theorem dX0_splice_77 : decode cX0_splice 77 = .ok (.ireturn, 1) := by decide +kernel
theorem dX0_rest_0 : decode cX0_rest 0 = .ok (.iload_n 1, 1) := by decide +kernel
theorem dX0_rest_1 : decode cX0_rest 1 = .ok (.iconst 1, 1) := by decide +kernel
theorem dX0_rest_2 : decode cX0_rest 2 = .ok (.if_icmp .lt 9, 3) := by decide +kernel
theorem dX0_rest_5 : decode cX0_rest 5 = .ok (.iload_n 1, 1) := by decide +kernel
theorem dX0_rest_6 : decode cX0_rest 6 = .ok (.bipush 60, 2) := by decide +kernel
theorem dX0_rest_8 : decode cX0_rest 8 = .ok (.if_icmp .le 13, 3) := by decide +kernel
theorem dX0_rest_11 : decode cX0_rest 11 = .ok (.new 106, 3) := by decide +kernel
theorem dX0_rest_14 : decode cX0_rest 14 = .ok (.dup, 1) := by decide +kernel
theorem dX0_rest_15 : decode cX0_rest 15 = .ok (.ldc 108, 2) := by decide +kernel
theorem dX0_rest_17 : decode cX0_rest 17 = .ok (.invokespecial 110, 3) := by decide +kernel
theorem dX0_rest_20 : decode cX0_rest 20 = .ok (.athrow, 1) := by decide +kernel
theorem dX0_rest_21 : decode cX0_rest 21 = .ok (.aload_n 0, 1) := by decide +kernel
theorem dX0_rest_22 : decode cX0_rest 22 = .ok (.bipush 99, 2) := by decide +kernel
theorem dX0_rest_24 : decode cX0_rest 24 = .ok (.aload_n 0, 1) := by decide +kernel
theorem dX0_rest_25 : decode cX0_rest 25 = .ok (.getfield 25, 3) := by decide +kernel
theorem dX0_rest_28 : decode cX0_rest 28 = .ok (.iload_n 1, 1) := by decide +kernel
theorem dX0_rest_29 : decode cX0_rest 29 = .ok (.iadd, 1) := by decide +kernel
theorem dX0_rest_30 : decode cX0_rest 30 = .ok (.invokestatic 111, 3) := by decide +kernel
theorem dX0_rest_33 : decode cX0_rest 33 = .ok (.putfield 25, 3) := by decide +kernel
theorem dX0_rest_36 : decode cX0_rest 36 = .ok (.aload_n 0, 1) := by decide +kernel
theorem dX0_rest_37 : decode cX0_rest 37 = .ok (.getfield 25, 3) := by decide +kernel
theorem dX0_rest_40 : decode cX0_rest 40 = .ok (.ireturn, 1) := by decide +kernel
theorem dX0_remarks_0 : decode cX0_remarks 0 = .ok (.aload_n 0, 1) := by decide +kernel
theorem dX0_remarks_1 : decode cX0_remarks 1 = .ok (.getfield 69, 3) := by decide +kernel
theorem dX0_remarks_4 : decode cX0_remarks 4 = .ok (.ireturn, 1) := by decide +kernel
theorem dX0_words_0 : decode cX0_words 0 = .ok (.aload_n 0, 1) := by decide +kernel
theorem dX0_words_1 : decode cX0_words 1 = .ok (.getfield 116, 3) := by decide +kernel
theorem dX0_words_4 : decode cX0_words 4 = .ok (.ireturn, 1) := by decide +kernel
theorem dX0_coughs_0 : decode cX0_coughs 0 = .ok (.aload_n 0, 1) := by decide +kernel
theorem dX0_coughs_1 : decode cX0_coughs 1 = .ok (.getfield 69, 3) := by decide +kernel
theorem dX0_coughs_4 : decode cX0_coughs 4 = .ok (.aload_n 0, 1) := by decide +kernel
theorem dX0_coughs_5 : decode cX0_coughs 5 = .ok (.getfield 116, 3) := by decide +kernel
theorem dX0_coughs_8 : decode cX0_coughs 8 = .ok (.isub, 1) := by decide +kernel
theorem dX0_coughs_9 : decode cX0_coughs 9 = .ok (.ireturn, 1) := by decide +kernel
theorem dX0_patience_0 : decode cX0_patience 0 = .ok (.aload_n 0, 1) := by decide +kernel
theorem dX0_patience_1 : decode cX0_patience 1 = .ok (.getfield 25, 3) := by decide +kernel
theorem dX0_patience_4 : decode cX0_patience 4 = .ok (.ireturn, 1) := by decide +kernel
theorem dX0_spent_0 : decode cX0_spent 0 = .ok (.aload_n 0, 1) := by decide +kernel
theorem dX0_spent_1 : decode cX0_spent 1 = .ok (.getfield 119, 3) := by decide +kernel
theorem dX0_spent_4 : decode cX0_spent 4 = .ok (.ireturn, 1) := by decide +kernel
set_option maxRecDepth 20000 in
theorem ggX0_isCough_X0_requirePlace : GoodIn wsX0_isCough wsX0_requirePlace := goodIn_ca (goodIn_r _ [5, 6, 7, 8, 17, 18, 19, 20, 21, 22, 23, 24, 25, 26] (by decide +kernel) (by decide +kernel)) (goodIn_sub (fun _ h => List.mem_cons_of_mem _ (List.mem_append_right _ h)) (by decide +kernel))
set_option maxRecDepth 20000 in
theorem gX0_isCough_X0_requirePlace : GoodIn wsX0_isCough (wsV RX0 43 RX0 yX0_requirePlace wsX0_requirePlace) := goodIn_app (goodIn_of _ (by decide +kernel)) ggX0_isCough_X0_requirePlace
set_option maxRecDepth 20000 in
theorem ggX0_isCough_X0_coughStandsAt : GoodIn wsX0_isCough wsX0_coughStandsAt := goodIn_r _ [12, 13, 14, 15, 4, 16, 17, 18, 19, 20, 21, 22, 23, 24, 25, 26] (by decide +kernel) (by decide +kernel)
set_option maxRecDepth 20000 in
theorem gX0_isCough_X0_coughStandsAt : GoodIn wsX0_isCough (wsV RX0 46 RX0 yX0_coughStandsAt wsX0_coughStandsAt) := goodIn_app (goodIn_of _ (by decide +kernel)) ggX0_isCough_X0_coughStandsAt
theorem dX0_isCough_0 : decode cX0_isCough 0 = .ok (.aload_n 0, 1) := by decide +kernel
theorem dX0_isCough_1 : decode cX0_isCough 1 = .ok (.iload_n 1, 1) := by decide +kernel
theorem dX0_isCough_2 : decode cX0_isCough 2 = .ok (.invokevirtual 43, 3) := by decide +kernel
theorem dX0_isCough_5 : decode cX0_isCough 5 = .ok (.aload_n 0, 1) := by decide +kernel
theorem dX0_isCough_6 : decode cX0_isCough 6 = .ok (.iload_n 1, 1) := by decide +kernel
theorem dX0_isCough_7 : decode cX0_isCough 7 = .ok (.invokevirtual 46, 3) := by decide +kernel
theorem dX0_isCough_10 : decode cX0_isCough 10 = .ok (.ireturn, 1) := by decide +kernel
set_option maxRecDepth 20000 in
theorem ggX0_speakerAt_X0_requirePlace : GoodIn wsX0_speakerAt wsX0_requirePlace := goodIn_ca (goodIn_r _ [6, 7, 8, 9, 13, 14, 15, 16, 17, 18, 19, 20, 21, 22] (by decide +kernel) (by decide +kernel)) (goodIn_sub (fun _ h => List.mem_cons_of_mem _ (List.mem_append_right _ h)) (by decide +kernel))
set_option maxRecDepth 20000 in
theorem gX0_speakerAt_X0_requirePlace : GoodIn wsX0_speakerAt (wsV RX0 43 RX0 yX0_requirePlace wsX0_requirePlace) := goodIn_app (goodIn_of _ (by decide +kernel)) ggX0_speakerAt_X0_requirePlace
set_option maxRecDepth 20000 in
theorem ggX0_speakerAt_X0_read : GoodIn wsX0_speakerAt wsX0_read := goodIn_r _ [12] (by decide +kernel) (by decide +kernel)
set_option maxRecDepth 20000 in
theorem gX0_speakerAt_X0_read : GoodIn wsX0_speakerAt (va_wsS RX0 78 yX0_read wsX0_read) := goodIn_app (goodIn_of _ (by decide +kernel)) ggX0_speakerAt_X0_read
theorem dX0_speakerAt_0 : decode cX0_speakerAt 0 = .ok (.aload_n 0, 1) := by decide +kernel
theorem dX0_speakerAt_1 : decode cX0_speakerAt 1 = .ok (.iload_n 1, 1) := by decide +kernel
theorem dX0_speakerAt_2 : decode cX0_speakerAt 2 = .ok (.invokevirtual 43, 3) := by decide +kernel
theorem dX0_speakerAt_5 : decode cX0_speakerAt 5 = .ok (.aload_n 0, 1) := by decide +kernel
theorem dX0_speakerAt_6 : decode cX0_speakerAt 6 = .ok (.getfield 9, 3) := by decide +kernel
theorem dX0_speakerAt_9 : decode cX0_speakerAt 9 = .ok (.iload_n 1, 1) := by decide +kernel
theorem dX0_speakerAt_10 : decode cX0_speakerAt 10 = .ok (.invokestatic 78, 3) := by decide +kernel
theorem dX0_speakerAt_13 : decode cX0_speakerAt 13 = .ok (.ireturn, 1) := by decide +kernel
set_option maxRecDepth 20000 in
theorem ggX0_placeOf_X0_requireWord : GoodIn wsX0_placeOf wsX0_requireWord := goodIn_ca (goodIn_r _ [6, 7, 8, 9, 13, 14, 15, 16, 17, 18, 19, 20, 21, 22] (by decide +kernel) (by decide +kernel)) (goodIn_sub (fun _ h => List.mem_cons_of_mem _ (List.mem_append_right _ h)) (by decide +kernel))
set_option maxRecDepth 20000 in
theorem gX0_placeOf_X0_requireWord : GoodIn wsX0_placeOf (wsV RX0 122 RX0 yX0_requireWord wsX0_requireWord) := goodIn_app (goodIn_of _ (by decide +kernel)) ggX0_placeOf_X0_requireWord
set_option maxRecDepth 20000 in
theorem ggX0_placeOf_X0_read : GoodIn wsX0_placeOf wsX0_read := goodIn_r _ [12] (by decide +kernel) (by decide +kernel)
set_option maxRecDepth 20000 in
theorem gX0_placeOf_X0_read : GoodIn wsX0_placeOf (va_wsS RX0 78 yX0_read wsX0_read) := goodIn_app (goodIn_of _ (by decide +kernel)) ggX0_placeOf_X0_read
theorem dX0_placeOf_0 : decode cX0_placeOf 0 = .ok (.aload_n 0, 1) := by decide +kernel
theorem dX0_placeOf_1 : decode cX0_placeOf 1 = .ok (.iload_n 1, 1) := by decide +kernel
theorem dX0_placeOf_2 : decode cX0_placeOf 2 = .ok (.invokevirtual 122, 3) := by decide +kernel
theorem dX0_placeOf_5 : decode cX0_placeOf 5 = .ok (.aload_n 0, 1) := by decide +kernel
theorem dX0_placeOf_6 : decode cX0_placeOf 6 = .ok (.getfield 19, 3) := by decide +kernel
theorem dX0_placeOf_9 : decode cX0_placeOf 9 = .ok (.iload_n 1, 1) := by decide +kernel
theorem dX0_placeOf_10 : decode cX0_placeOf 10 = .ok (.invokestatic 78, 3) := by decide +kernel
theorem dX0_placeOf_13 : decode cX0_placeOf 13 = .ok (.ireturn, 1) := by decide +kernel
set_option maxRecDepth 20000 in
theorem ggX0_topicOf_X0_requireWord : GoodIn wsX0_topicOf wsX0_requireWord := goodIn_ca (goodIn_r _ [5, 6, 7, 8, 18, 19, 20, 21, 22, 23, 24, 25, 26, 27] (by decide +kernel) (by decide +kernel)) (goodIn_sub (fun _ h => List.mem_cons_of_mem _ (List.mem_append_right _ h)) (by decide +kernel))
set_option maxRecDepth 20000 in
theorem gX0_topicOf_X0_requireWord : GoodIn wsX0_topicOf (wsV RX0 122 RX0 yX0_requireWord wsX0_requireWord) := goodIn_app (goodIn_of _ (by decide +kernel)) ggX0_topicOf_X0_requireWord
set_option maxRecDepth 20000 in
theorem ggX0_topicOf_X0_topicOfWord : GoodIn wsX0_topicOf wsX0_topicOfWord := goodIn_r _ [12, 13, 14, 15, 16, 4, 17, 18, 19, 20, 21, 22, 23, 24, 25, 26, 27] (by decide +kernel) (by decide +kernel)
set_option maxRecDepth 20000 in
theorem gX0_topicOf_X0_topicOfWord : GoodIn wsX0_topicOf (wsV RX0 93 RX0 yX0_topicOfWord wsX0_topicOfWord) := goodIn_app (goodIn_of _ (by decide +kernel)) ggX0_topicOf_X0_topicOfWord
theorem dX0_topicOf_0 : decode cX0_topicOf 0 = .ok (.aload_n 0, 1) := by decide +kernel
theorem dX0_topicOf_1 : decode cX0_topicOf 1 = .ok (.iload_n 1, 1) := by decide +kernel
theorem dX0_topicOf_2 : decode cX0_topicOf 2 = .ok (.invokevirtual 122, 3) := by decide +kernel
theorem dX0_topicOf_5 : decode cX0_topicOf 5 = .ok (.aload_n 0, 1) := by decide +kernel
theorem dX0_topicOf_6 : decode cX0_topicOf 6 = .ok (.iload_n 1, 1) := by decide +kernel
theorem dX0_topicOf_7 : decode cX0_topicOf 7 = .ok (.invokevirtual 93, 3) := by decide +kernel
theorem dX0_topicOf_10 : decode cX0_topicOf 10 = .ok (.ireturn, 1) := by decide +kernel
set_option maxRecDepth 20000 in
theorem ggX0_wordsOf_X0_requireSpeaker : GoodIn wsX0_wordsOf wsX0_requireSpeaker := goodIn_ca (goodIn_r _ [5, 6, 7] (by decide +kernel) (by decide +kernel)) (goodIn_sub (fun _ h => List.mem_cons_of_mem _ (List.mem_append_right _ h)) (by decide +kernel))
set_option maxRecDepth 20000 in
theorem gX0_wordsOf_X0_requireSpeaker : GoodIn wsX0_wordsOf (va_wsS RX0 29 yX0_requireSpeaker wsX0_requireSpeaker) := goodIn_app (goodIn_of _ (by decide +kernel)) ggX0_wordsOf_X0_requireSpeaker
set_option maxRecDepth 20000 in
theorem ggX0_wordsOf_X0_speakerOfWord : GoodIn wsX0_wordsOf wsX0_speakerOfWord := goodIn_r _ [11, 12, 13, 14, 15, 4, 16, 17, 18, 19, 20, 21, 22, 23, 24, 25, 26] (by decide +kernel) (by decide +kernel)
set_option maxRecDepth 20000 in
theorem gX0_wordsOf_X0_speakerOfWord : GoodIn wsX0_wordsOf (wsV RX0 89 RX0 yX0_speakerOfWord wsX0_speakerOfWord) := goodIn_app (goodIn_of _ (by decide +kernel)) ggX0_wordsOf_X0_speakerOfWord
theorem dX0_wordsOf_0 : decode cX0_wordsOf 0 = .ok (.iload_n 1, 1) := by decide +kernel
theorem dX0_wordsOf_1 : decode cX0_wordsOf 1 = .ok (.invokestatic 29, 3) := by decide +kernel
theorem dX0_wordsOf_4 : decode cX0_wordsOf 4 = .ok (.iconst 0, 1) := by decide +kernel
theorem dX0_wordsOf_5 : decode cX0_wordsOf 5 = .ok (.istore_n 2, 1) := by decide +kernel
theorem dX0_wordsOf_6 : decode cX0_wordsOf 6 = .ok (.iconst 0, 1) := by decide +kernel
theorem dX0_wordsOf_7 : decode cX0_wordsOf 7 = .ok (.istore_n 3, 1) := by decide +kernel
theorem dX0_wordsOf_8 : decode cX0_wordsOf 8 = .ok (.iload_n 3, 1) := by decide +kernel
theorem dX0_wordsOf_9 : decode cX0_wordsOf 9 = .ok (.aload_n 0, 1) := by decide +kernel
theorem dX0_wordsOf_10 : decode cX0_wordsOf 10 = .ok (.getfield 116, 3) := by decide +kernel
theorem dX0_wordsOf_13 : decode cX0_wordsOf 13 = .ok (.if_icmp .ge 21, 3) := by decide +kernel
theorem dX0_wordsOf_16 : decode cX0_wordsOf 16 = .ok (.aload_n 0, 1) := by decide +kernel
theorem dX0_wordsOf_17 : decode cX0_wordsOf 17 = .ok (.iload_n 3, 1) := by decide +kernel
theorem dX0_wordsOf_18 : decode cX0_wordsOf 18 = .ok (.invokevirtual 89, 3) := by decide +kernel
theorem dX0_wordsOf_21 : decode cX0_wordsOf 21 = .ok (.iload_n 1, 1) := by decide +kernel
theorem dX0_wordsOf_22 : decode cX0_wordsOf 22 = .ok (.if_icmp .ne 6, 3) := by decide +kernel
theorem dX0_wordsOf_25 : decode cX0_wordsOf 25 = .ok (.iinc 2 1, 3) := by decide +kernel
theorem dX0_wordsOf_28 : decode cX0_wordsOf 28 = .ok (.iinc 3 1, 3) := by decide +kernel
theorem dX0_wordsOf_31 : decode cX0_wordsOf 31 = .ok (.goto (-23), 3) := by decide +kernel
theorem dX0_wordsOf_34 : decode cX0_wordsOf 34 = .ok (.iload_n 2, 1) := by decide +kernel
theorem dX0_wordsOf_35 : decode cX0_wordsOf 35 = .ok (.ireturn, 1) := by decide +kernel
set_option maxRecDepth 20000 in
theorem ggX0_coughsIn_X0_requireGap : GoodIn wsX0_coughsIn wsX0_requireGap := goodIn_ca (goodIn_r _ [5, 6, 7, 8, 9, 10, 4, 11, 12, 21, 22, 23, 24, 25, 26, 27, 28, 29, 30] (by decide +kernel) (by decide +kernel)) (goodIn_sub (fun _ h => List.mem_cons_of_mem _ (List.mem_append_right _ h)) (by decide +kernel))
set_option maxRecDepth 20000 in
theorem gX0_coughsIn_X0_requireGap : GoodIn wsX0_coughsIn (wsV RX0 72 RX0 yX0_requireGap wsX0_requireGap) := goodIn_app (goodIn_of _ (by decide +kernel)) ggX0_coughsIn_X0_requireGap
set_option maxRecDepth 20000 in
theorem ggX0_coughsIn_X0_coughsOfGap : GoodIn wsX0_coughsIn wsX0_coughsOfGap := goodIn_r _ [16, 17, 18, 19, 4, 20, 21, 22, 23, 24, 25, 26, 27, 28, 29, 30] (by decide +kernel) (by decide +kernel)
set_option maxRecDepth 20000 in
theorem gX0_coughsIn_X0_coughsOfGap : GoodIn wsX0_coughsIn (wsV RX0 125 RX0 yX0_coughsOfGap wsX0_coughsOfGap) := goodIn_app (goodIn_of _ (by decide +kernel)) ggX0_coughsIn_X0_coughsOfGap
theorem dX0_coughsIn_0 : decode cX0_coughsIn 0 = .ok (.aload_n 0, 1) := by decide +kernel
theorem dX0_coughsIn_1 : decode cX0_coughsIn 1 = .ok (.iload_n 1, 1) := by decide +kernel
theorem dX0_coughsIn_2 : decode cX0_coughsIn 2 = .ok (.invokevirtual 72, 3) := by decide +kernel
theorem dX0_coughsIn_5 : decode cX0_coughsIn 5 = .ok (.aload_n 0, 1) := by decide +kernel
theorem dX0_coughsIn_6 : decode cX0_coughsIn 6 = .ok (.iload_n 1, 1) := by decide +kernel
theorem dX0_coughsIn_7 : decode cX0_coughsIn 7 = .ok (.invokevirtual 125, 3) := by decide +kernel
theorem dX0_coughsIn_10 : decode cX0_coughsIn 10 = .ok (.ireturn, 1) := by decide +kernel
set_option maxRecDepth 20000 in
theorem ggX0_strainOf_X0_requireGap : GoodIn wsX0_strainOf wsX0_requireGap := goodIn_ca (goodIn_r _ [5, 6, 7, 8, 9, 10, 4, 11, 12, 40, 41, 42, 43, 44, 45, 46, 47, 48, 49] (by decide +kernel) (by decide +kernel)) (goodIn_sub (fun _ h => List.mem_cons_of_mem _ (List.mem_append_right _ h)) (by decide +kernel))
set_option maxRecDepth 20000 in
theorem gX0_strainOf_X0_requireGap : GoodIn wsX0_strainOf (wsV RX0 72 RX0 yX0_requireGap wsX0_requireGap) := goodIn_app (goodIn_of _ (by decide +kernel)) ggX0_strainOf_X0_requireGap
set_option maxRecDepth 20000 in
theorem ggX0_strainOf_X0_strainOfGap : GoodIn wsX0_strainOf wsX0_strainOfGap := goodIn_r _ [16, 17, 18, 19, 4, 20, 21, 22, 23, 24, 25, 26, 27, 28, 29, 30, 31, 32, 33, 34, 35, 36, 37, 38, 39, 40, 41, 42, 43, 44, 45, 46, 47, 48, 49] (by decide +kernel) (by decide +kernel)
set_option maxRecDepth 20000 in
theorem gX0_strainOf_X0_strainOfGap : GoodIn wsX0_strainOf (wsV RX0 128 RX0 yX0_strainOfGap wsX0_strainOfGap) := goodIn_app (goodIn_of _ (by decide +kernel)) ggX0_strainOf_X0_strainOfGap
theorem dX0_strainOf_0 : decode cX0_strainOf 0 = .ok (.aload_n 0, 1) := by decide +kernel
theorem dX0_strainOf_1 : decode cX0_strainOf 1 = .ok (.iload_n 1, 1) := by decide +kernel
theorem dX0_strainOf_2 : decode cX0_strainOf 2 = .ok (.invokevirtual 72, 3) := by decide +kernel
theorem dX0_strainOf_5 : decode cX0_strainOf 5 = .ok (.aload_n 0, 1) := by decide +kernel
theorem dX0_strainOf_6 : decode cX0_strainOf 6 = .ok (.iload_n 1, 1) := by decide +kernel
theorem dX0_strainOf_7 : decode cX0_strainOf 7 = .ok (.invokevirtual 128, 3) := by decide +kernel
theorem dX0_strainOf_10 : decode cX0_strainOf 10 = .ok (.ireturn, 1) := by decide +kernel
set_option maxRecDepth 20000 in
theorem ggX0_isTied_X0_requireGap : GoodIn wsX0_isTied wsX0_requireGap := goodIn_ca (goodIn_r _ [5, 6, 7, 8, 9, 10, 4, 11, 12, 22, 23, 24, 25, 26, 27, 28, 29, 30, 31] (by decide +kernel) (by decide +kernel)) (goodIn_sub (fun _ h => List.mem_cons_of_mem _ (List.mem_append_right _ h)) (by decide +kernel))
set_option maxRecDepth 20000 in
theorem gX0_isTied_X0_requireGap : GoodIn wsX0_isTied (wsV RX0 72 RX0 yX0_requireGap wsX0_requireGap) := goodIn_app (goodIn_of _ (by decide +kernel)) ggX0_isTied_X0_requireGap
set_option maxRecDepth 20000 in
theorem ggX0_isTied_X0_gapTied : GoodIn wsX0_isTied wsX0_gapTied := goodIn_r _ [16, 17, 18, 19, 20, 4, 21, 22, 23, 24, 25, 26, 27, 28, 29, 30, 31] (by decide +kernel) (by decide +kernel)
set_option maxRecDepth 20000 in
theorem gX0_isTied_X0_gapTied : GoodIn wsX0_isTied (wsV RX0 131 RX0 yX0_gapTied wsX0_gapTied) := goodIn_app (goodIn_of _ (by decide +kernel)) ggX0_isTied_X0_gapTied
theorem dX0_isTied_0 : decode cX0_isTied 0 = .ok (.aload_n 0, 1) := by decide +kernel
theorem dX0_isTied_1 : decode cX0_isTied 1 = .ok (.iload_n 1, 1) := by decide +kernel
theorem dX0_isTied_2 : decode cX0_isTied 2 = .ok (.invokevirtual 72, 3) := by decide +kernel
theorem dX0_isTied_5 : decode cX0_isTied 5 = .ok (.aload_n 0, 1) := by decide +kernel
theorem dX0_isTied_6 : decode cX0_isTied 6 = .ok (.iload_n 1, 1) := by decide +kernel
theorem dX0_isTied_7 : decode cX0_isTied 7 = .ok (.invokevirtual 131, 3) := by decide +kernel
theorem dX0_isTied_10 : decode cX0_isTied 10 = .ok (.ireturn, 1) := by decide +kernel
set_option maxRecDepth 20000 in
theorem ggX0_isSmooth_X0_requireGap : GoodIn wsX0_isSmooth wsX0_requireGap := goodIn_ca (goodIn_r _ [5, 6, 7, 8, 9, 10, 4, 11, 12, 64, 65, 66, 67, 68, 69, 70, 71, 72, 73] (by decide +kernel) (by decide +kernel)) (goodIn_sub (fun _ h => List.mem_cons_of_mem _ (List.mem_append_right _ h)) (by decide +kernel))
set_option maxRecDepth 20000 in
theorem gX0_isSmooth_X0_requireGap : GoodIn wsX0_isSmooth (wsV RX0 72 RX0 yX0_requireGap wsX0_requireGap) := goodIn_app (goodIn_of _ (by decide +kernel)) ggX0_isSmooth_X0_requireGap
set_option maxRecDepth 20000 in
theorem ggX0_isSmooth_X0_kindOfGap : GoodIn wsX0_isSmooth wsX0_kindOfGap := goodIn_r _ [16, 17, 18, 19, 4, 20, 21, 22, 23, 24, 25, 26, 27, 28, 29, 30, 31, 32, 33, 34, 35, 36, 37, 38, 39, 40, 41, 42, 43, 44, 45, 46, 47, 48, 49, 50, 51, 52, 53, 54, 55, 56, 57, 58, 59, 60, 61, 62, 63, 64, 65, 66, 67, 68, 69, 70, 71, 72, 73] (by decide +kernel) (by decide +kernel)
set_option maxRecDepth 20000 in
theorem gX0_isSmooth_X0_kindOfGap : GoodIn wsX0_isSmooth (wsV RX0 134 RX0 yX0_kindOfGap wsX0_kindOfGap) := goodIn_app (goodIn_of _ (by decide +kernel)) ggX0_isSmooth_X0_kindOfGap
theorem dX0_isSmooth_0 : decode cX0_isSmooth 0 = .ok (.aload_n 0, 1) := by decide +kernel
theorem dX0_isSmooth_1 : decode cX0_isSmooth 1 = .ok (.iload_n 1, 1) := by decide +kernel
theorem dX0_isSmooth_2 : decode cX0_isSmooth 2 = .ok (.invokevirtual 72, 3) := by decide +kernel
theorem dX0_isSmooth_5 : decode cX0_isSmooth 5 = .ok (.aload_n 0, 1) := by decide +kernel
theorem dX0_isSmooth_6 : decode cX0_isSmooth 6 = .ok (.iload_n 1, 1) := by decide +kernel
theorem dX0_isSmooth_7 : decode cX0_isSmooth 7 = .ok (.invokevirtual 134, 3) := by decide +kernel
theorem dX0_isSmooth_10 : decode cX0_isSmooth 10 = .ok (.ifCond .ne 7, 3) := by decide +kernel
theorem dX0_isSmooth_13 : decode cX0_isSmooth 13 = .ok (.iconst 1, 1) := by decide +kernel
theorem dX0_isSmooth_14 : decode cX0_isSmooth 14 = .ok (.goto 4, 3) := by decide +kernel
theorem dX0_isSmooth_17 : decode cX0_isSmooth 17 = .ok (.iconst 0, 1) := by decide +kernel
theorem dX0_isSmooth_18 : decode cX0_isSmooth 18 = .ok (.ireturn, 1) := by decide +kernel
set_option maxRecDepth 20000 in
theorem ggX0_isPolite_X0_requireGap : GoodIn wsX0_isPolite wsX0_requireGap := goodIn_ca (goodIn_r _ [5, 6, 7, 8, 9, 10, 4, 11, 12, 64, 65, 66, 67, 68, 69, 70, 71, 72, 73] (by decide +kernel) (by decide +kernel)) (goodIn_sub (fun _ h => List.mem_cons_of_mem _ (List.mem_append_right _ h)) (by decide +kernel))
set_option maxRecDepth 20000 in
theorem gX0_isPolite_X0_requireGap : GoodIn wsX0_isPolite (wsV RX0 72 RX0 yX0_requireGap wsX0_requireGap) := goodIn_app (goodIn_of _ (by decide +kernel)) ggX0_isPolite_X0_requireGap
set_option maxRecDepth 20000 in
theorem ggX0_isPolite_X0_kindOfGap : GoodIn wsX0_isPolite wsX0_kindOfGap := goodIn_r _ [16, 17, 18, 19, 4, 20, 21, 22, 23, 24, 25, 26, 27, 28, 29, 30, 31, 32, 33, 34, 35, 36, 37, 38, 39, 40, 41, 42, 43, 44, 45, 46, 47, 48, 49, 50, 51, 52, 53, 54, 55, 56, 57, 58, 59, 60, 61, 62, 63, 64, 65, 66, 67, 68, 69, 70, 71, 72, 73] (by decide +kernel) (by decide +kernel)
set_option maxRecDepth 20000 in
theorem gX0_isPolite_X0_kindOfGap : GoodIn wsX0_isPolite (wsV RX0 134 RX0 yX0_kindOfGap wsX0_kindOfGap) := goodIn_app (goodIn_of _ (by decide +kernel)) ggX0_isPolite_X0_kindOfGap
theorem dX0_isPolite_0 : decode cX0_isPolite 0 = .ok (.aload_n 0, 1) := by decide +kernel
theorem dX0_isPolite_1 : decode cX0_isPolite 1 = .ok (.iload_n 1, 1) := by decide +kernel
theorem dX0_isPolite_2 : decode cX0_isPolite 2 = .ok (.invokevirtual 72, 3) := by decide +kernel
theorem dX0_isPolite_5 : decode cX0_isPolite 5 = .ok (.aload_n 0, 1) := by decide +kernel
theorem dX0_isPolite_6 : decode cX0_isPolite 6 = .ok (.iload_n 1, 1) := by decide +kernel
theorem dX0_isPolite_7 : decode cX0_isPolite 7 = .ok (.invokevirtual 134, 3) := by decide +kernel
theorem dX0_isPolite_10 : decode cX0_isPolite 10 = .ok (.iconst 1, 1) := by decide +kernel
theorem dX0_isPolite_11 : decode cX0_isPolite 11 = .ok (.if_icmp .ne 7, 3) := by decide +kernel
theorem dX0_isPolite_14 : decode cX0_isPolite 14 = .ok (.iconst 1, 1) := by decide +kernel
theorem dX0_isPolite_15 : decode cX0_isPolite 15 = .ok (.goto 4, 3) := by decide +kernel
theorem dX0_isPolite_18 : decode cX0_isPolite 18 = .ok (.iconst 0, 1) := by decide +kernel
theorem dX0_isPolite_19 : decode cX0_isPolite 19 = .ok (.ireturn, 1) := by decide +kernel
set_option maxRecDepth 20000 in
theorem ggX0_isBroken_X0_requireGap : GoodIn wsX0_isBroken wsX0_requireGap := goodIn_ca (goodIn_r _ [5, 6, 7, 8, 9, 10, 4, 11, 12, 64, 65, 66, 67, 68, 69, 70, 71, 72, 73] (by decide +kernel) (by decide +kernel)) (goodIn_sub (fun _ h => List.mem_cons_of_mem _ (List.mem_append_right _ h)) (by decide +kernel))
set_option maxRecDepth 20000 in
theorem gX0_isBroken_X0_requireGap : GoodIn wsX0_isBroken (wsV RX0 72 RX0 yX0_requireGap wsX0_requireGap) := goodIn_app (goodIn_of _ (by decide +kernel)) ggX0_isBroken_X0_requireGap
set_option maxRecDepth 20000 in
theorem ggX0_isBroken_X0_kindOfGap : GoodIn wsX0_isBroken wsX0_kindOfGap := goodIn_r _ [16, 17, 18, 19, 4, 20, 21, 22, 23, 24, 25, 26, 27, 28, 29, 30, 31, 32, 33, 34, 35, 36, 37, 38, 39, 40, 41, 42, 43, 44, 45, 46, 47, 48, 49, 50, 51, 52, 53, 54, 55, 56, 57, 58, 59, 60, 61, 62, 63, 64, 65, 66, 67, 68, 69, 70, 71, 72, 73] (by decide +kernel) (by decide +kernel)
set_option maxRecDepth 20000 in
theorem gX0_isBroken_X0_kindOfGap : GoodIn wsX0_isBroken (wsV RX0 134 RX0 yX0_kindOfGap wsX0_kindOfGap) := goodIn_app (goodIn_of _ (by decide +kernel)) ggX0_isBroken_X0_kindOfGap
theorem dX0_isBroken_0 : decode cX0_isBroken 0 = .ok (.aload_n 0, 1) := by decide +kernel
theorem dX0_isBroken_1 : decode cX0_isBroken 1 = .ok (.iload_n 1, 1) := by decide +kernel
theorem dX0_isBroken_2 : decode cX0_isBroken 2 = .ok (.invokevirtual 72, 3) := by decide +kernel
theorem dX0_isBroken_5 : decode cX0_isBroken 5 = .ok (.aload_n 0, 1) := by decide +kernel
theorem dX0_isBroken_6 : decode cX0_isBroken 6 = .ok (.iload_n 1, 1) := by decide +kernel
theorem dX0_isBroken_7 : decode cX0_isBroken 7 = .ok (.invokevirtual 134, 3) := by decide +kernel
theorem dX0_isBroken_10 : decode cX0_isBroken 10 = .ok (.iconst 2, 1) := by decide +kernel
theorem dX0_isBroken_11 : decode cX0_isBroken 11 = .ok (.if_icmp .ne 7, 3) := by decide +kernel
theorem dX0_isBroken_14 : decode cX0_isBroken 14 = .ok (.iconst 1, 1) := by decide +kernel
theorem dX0_isBroken_15 : decode cX0_isBroken 15 = .ok (.goto 4, 3) := by decide +kernel
theorem dX0_isBroken_18 : decode cX0_isBroken 18 = .ok (.iconst 0, 1) := by decide +kernel
theorem dX0_isBroken_19 : decode cX0_isBroken 19 = .ok (.ireturn, 1) := by decide +kernel
set_option maxRecDepth 20000 in
theorem ggX0_brokenGaps_X0_gapsOfKind : GoodIn wsX0_brokenGaps wsX0_gapsOfKind := goodIn_r _ [5, 6, 7, 8, 4, 9, 10, 11, 12, 13, 14, 15, 16, 17, 18, 19, 20, 21, 22, 23, 24, 25, 26, 27, 28, 29, 30, 31, 32, 33, 34, 35, 36, 37, 38, 39, 40, 41, 42, 43, 44, 45, 46, 47, 48, 49, 50, 51, 52, 53, 54, 55, 56, 57, 58, 59, 60, 61, 62, 63, 64, 65, 66, 67, 68, 69, 70, 71] (by decide +kernel) (by decide +kernel)
set_option maxRecDepth 20000 in
theorem gX0_brokenGaps_X0_gapsOfKind : GoodIn wsX0_brokenGaps (wsV RX0 137 RX0 yX0_gapsOfKind wsX0_gapsOfKind) := goodIn_app (goodIn_of _ (by decide +kernel)) ggX0_brokenGaps_X0_gapsOfKind
theorem dX0_brokenGaps_0 : decode cX0_brokenGaps 0 = .ok (.aload_n 0, 1) := by decide +kernel
theorem dX0_brokenGaps_1 : decode cX0_brokenGaps 1 = .ok (.iconst 2, 1) := by decide +kernel
theorem dX0_brokenGaps_2 : decode cX0_brokenGaps 2 = .ok (.invokevirtual 137, 3) := by decide +kernel
theorem dX0_brokenGaps_5 : decode cX0_brokenGaps 5 = .ok (.ireturn, 1) := by decide +kernel
set_option maxRecDepth 20000 in
theorem ggX0_politeGaps_X0_gapsOfKind : GoodIn wsX0_politeGaps wsX0_gapsOfKind := goodIn_r _ [5, 6, 7, 8, 4, 9, 10, 11, 12, 13, 14, 15, 16, 17, 18, 19, 20, 21, 22, 23, 24, 25, 26, 27, 28, 29, 30, 31, 32, 33, 34, 35, 36, 37, 38, 39, 40, 41, 42, 43, 44, 45, 46, 47, 48, 49, 50, 51, 52, 53, 54, 55, 56, 57, 58, 59, 60, 61, 62, 63, 64, 65, 66, 67, 68, 69, 70, 71] (by decide +kernel) (by decide +kernel)
set_option maxRecDepth 20000 in
theorem gX0_politeGaps_X0_gapsOfKind : GoodIn wsX0_politeGaps (wsV RX0 137 RX0 yX0_gapsOfKind wsX0_gapsOfKind) := goodIn_app (goodIn_of _ (by decide +kernel)) ggX0_politeGaps_X0_gapsOfKind
theorem dX0_politeGaps_0 : decode cX0_politeGaps 0 = .ok (.aload_n 0, 1) := by decide +kernel
theorem dX0_politeGaps_1 : decode cX0_politeGaps 1 = .ok (.iconst 1, 1) := by decide +kernel
theorem dX0_politeGaps_2 : decode cX0_politeGaps 2 = .ok (.invokevirtual 137, 3) := by decide +kernel
theorem dX0_politeGaps_5 : decode cX0_politeGaps 5 = .ok (.ireturn, 1) := by decide +kernel
theorem dX0_threads_0 : decode cX0_threads 0 = .ok (.aload_n 0, 1) := by decide +kernel
theorem dX0_threads_1 : decode cX0_threads 1 = .ok (.getfield 86, 3) := by decide +kernel
theorem dX0_threads_4 : decode cX0_threads 4 = .ok (.ireturn, 1) := by decide +kernel
set_option maxRecDepth 20000 in
theorem ggX0_threadOf_X0_requireWord : GoodIn wsX0_threadOf wsX0_requireWord := goodIn_ca (goodIn_r _ [5, 6, 7, 8, 17, 18, 19, 20, 21, 22, 23, 24, 25, 26] (by decide +kernel) (by decide +kernel)) (goodIn_sub (fun _ h => List.mem_cons_of_mem _ (List.mem_append_right _ h)) (by decide +kernel))
set_option maxRecDepth 20000 in
theorem gX0_threadOf_X0_requireWord : GoodIn wsX0_threadOf (wsV RX0 122 RX0 yX0_requireWord wsX0_requireWord) := goodIn_app (goodIn_of _ (by decide +kernel)) ggX0_threadOf_X0_requireWord
set_option maxRecDepth 20000 in
theorem ggX0_threadOf_X0_threadOfWord : GoodIn wsX0_threadOf wsX0_threadOfWord := goodIn_r _ [12, 13, 14, 15, 4, 16, 17, 18, 19, 20, 21, 22, 23, 24, 25, 26] (by decide +kernel) (by decide +kernel)
set_option maxRecDepth 20000 in
theorem gX0_threadOf_X0_threadOfWord : GoodIn wsX0_threadOf (wsV RX0 140 RX0 yX0_threadOfWord wsX0_threadOfWord) := goodIn_app (goodIn_of _ (by decide +kernel)) ggX0_threadOf_X0_threadOfWord
theorem dX0_threadOf_0 : decode cX0_threadOf 0 = .ok (.aload_n 0, 1) := by decide +kernel
theorem dX0_threadOf_1 : decode cX0_threadOf 1 = .ok (.iload_n 1, 1) := by decide +kernel
theorem dX0_threadOf_2 : decode cX0_threadOf 2 = .ok (.invokevirtual 122, 3) := by decide +kernel
theorem dX0_threadOf_5 : decode cX0_threadOf 5 = .ok (.aload_n 0, 1) := by decide +kernel
theorem dX0_threadOf_6 : decode cX0_threadOf 6 = .ok (.iload_n 1, 1) := by decide +kernel
theorem dX0_threadOf_7 : decode cX0_threadOf 7 = .ok (.invokevirtual 140, 3) := by decide +kernel
theorem dX0_threadOf_10 : decode cX0_threadOf 10 = .ok (.ireturn, 1) := by decide +kernel
set_option maxRecDepth 20000 in
theorem ggX0_lengthOf_X0_requireThread : GoodIn wsX0_lengthOf wsX0_requireThread := goodIn_ca (goodIn_r _ [5, 6, 7, 8, 22, 23, 24, 25, 26, 27, 28, 29, 30, 31] (by decide +kernel) (by decide +kernel)) (goodIn_sub (fun _ h => List.mem_cons_of_mem _ (List.mem_append_right _ h)) (by decide +kernel))
set_option maxRecDepth 20000 in
theorem gX0_lengthOf_X0_requireThread : GoodIn wsX0_lengthOf (wsV RX0 143 RX0 yX0_requireThread wsX0_requireThread) := goodIn_app (goodIn_of _ (by decide +kernel)) ggX0_lengthOf_X0_requireThread
set_option maxRecDepth 20000 in
theorem ggX0_lengthOf_X0_wordsInThread : GoodIn wsX0_lengthOf wsX0_wordsInThread := goodIn_r _ [12, 13, 14, 15, 16, 4, 17, 18, 19, 20, 21, 22, 23, 24, 25, 26, 27, 28, 29, 30, 31] (by decide +kernel) (by decide +kernel)
set_option maxRecDepth 20000 in
theorem gX0_lengthOf_X0_wordsInThread : GoodIn wsX0_lengthOf (wsV RX0 146 RX0 yX0_wordsInThread wsX0_wordsInThread) := goodIn_app (goodIn_of _ (by decide +kernel)) ggX0_lengthOf_X0_wordsInThread
theorem dX0_lengthOf_0 : decode cX0_lengthOf 0 = .ok (.aload_n 0, 1) := by decide +kernel
theorem dX0_lengthOf_1 : decode cX0_lengthOf 1 = .ok (.iload_n 1, 1) := by decide +kernel
theorem dX0_lengthOf_2 : decode cX0_lengthOf 2 = .ok (.invokevirtual 143, 3) := by decide +kernel
theorem dX0_lengthOf_5 : decode cX0_lengthOf 5 = .ok (.aload_n 0, 1) := by decide +kernel
theorem dX0_lengthOf_6 : decode cX0_lengthOf 6 = .ok (.iload_n 1, 1) := by decide +kernel
theorem dX0_lengthOf_7 : decode cX0_lengthOf 7 = .ok (.invokevirtual 146, 3) := by decide +kernel
theorem dX0_lengthOf_10 : decode cX0_lengthOf 10 = .ok (.ireturn, 1) := by decide +kernel
set_option maxRecDepth 20000 in
theorem ggX0_longestThread_X0_wordsInThread : GoodIn wsX0_longestThread wsX0_wordsInThread := goodIn_r _ [6, 7, 8, 9, 10, 5, 11, 12, 13, 14, 15, 16, 17, 18, 19, 20, 21, 22, 23, 24, 25] (by decide +kernel) (by decide +kernel)
set_option maxRecDepth 20000 in
theorem gX0_longestThread_X0_wordsInThread : GoodIn wsX0_longestThread (wsV RX0 146 RX0 yX0_wordsInThread wsX0_wordsInThread) := goodIn_app (goodIn_of _ (by decide +kernel)) ggX0_longestThread_X0_wordsInThread
theorem dX0_longestThread_0 : decode cX0_longestThread 0 = .ok (.iconst (-1), 1) := by decide +kernel
theorem dX0_longestThread_1 : decode cX0_longestThread 1 = .ok (.istore_n 1, 1) := by decide +kernel
theorem dX0_longestThread_2 : decode cX0_longestThread 2 = .ok (.iconst 0, 1) := by decide +kernel
theorem dX0_longestThread_3 : decode cX0_longestThread 3 = .ok (.istore_n 2, 1) := by decide +kernel
theorem dX0_longestThread_4 : decode cX0_longestThread 4 = .ok (.iconst 0, 1) := by decide +kernel
theorem dX0_longestThread_5 : decode cX0_longestThread 5 = .ok (.istore_n 3, 1) := by decide +kernel
theorem dX0_longestThread_6 : decode cX0_longestThread 6 = .ok (.iload_n 3, 1) := by decide +kernel
theorem dX0_longestThread_7 : decode cX0_longestThread 7 = .ok (.aload_n 0, 1) := by decide +kernel
theorem dX0_longestThread_8 : decode cX0_longestThread 8 = .ok (.getfield 86, 3) := by decide +kernel
theorem dX0_longestThread_11 : decode cX0_longestThread 11 = .ok (.if_icmp .ge 27, 3) := by decide +kernel
theorem dX0_longestThread_14 : decode cX0_longestThread 14 = .ok (.aload_n 0, 1) := by decide +kernel
theorem dX0_longestThread_15 : decode cX0_longestThread 15 = .ok (.iload_n 3, 1) := by decide +kernel
theorem dX0_longestThread_16 : decode cX0_longestThread 16 = .ok (.invokevirtual 146, 3) := by decide +kernel
theorem dX0_longestThread_19 : decode cX0_longestThread 19 = .ok (.istore 4, 2) := by decide +kernel
theorem dX0_longestThread_21 : decode cX0_longestThread 21 = .ok (.iload 4, 2) := by decide +kernel
theorem dX0_longestThread_23 : decode cX0_longestThread 23 = .ok (.iload_n 2, 1) := by decide +kernel
theorem dX0_longestThread_24 : decode cX0_longestThread 24 = .ok (.if_icmp .le 8, 3) := by decide +kernel
theorem dX0_longestThread_27 : decode cX0_longestThread 27 = .ok (.iload 4, 2) := by decide +kernel
theorem dX0_longestThread_29 : decode cX0_longestThread 29 = .ok (.istore_n 2, 1) := by decide +kernel
theorem dX0_longestThread_30 : decode cX0_longestThread 30 = .ok (.iload_n 3, 1) := by decide +kernel
theorem dX0_longestThread_31 : decode cX0_longestThread 31 = .ok (.istore_n 1, 1) := by decide +kernel
theorem dX0_longestThread_32 : decode cX0_longestThread 32 = .ok (.iinc 3 1, 3) := by decide +kernel
theorem dX0_longestThread_35 : decode cX0_longestThread 35 = .ok (.goto (-29), 3) := by decide +kernel
theorem dX0_longestThread_38 : decode cX0_longestThread 38 = .ok (.iload_n 1, 1) := by decide +kernel
theorem dX0_longestThread_39 : decode cX0_longestThread 39 = .ok (.ireturn, 1) := by decide +kernel
set_option maxRecDepth 20000 in
theorem ggX0_threadsOf_X0_requireSpeaker : GoodIn wsX0_threadsOf wsX0_requireSpeaker := goodIn_ca (goodIn_r _ [5, 6, 7] (by decide +kernel) (by decide +kernel)) (goodIn_sub (fun _ h => List.mem_cons_of_mem _ (List.mem_append_right _ h)) (by decide +kernel))
set_option maxRecDepth 20000 in
theorem gX0_threadsOf_X0_requireSpeaker : GoodIn wsX0_threadsOf (va_wsS RX0 29 yX0_requireSpeaker wsX0_requireSpeaker) := goodIn_app (goodIn_of _ (by decide +kernel)) ggX0_threadsOf_X0_requireSpeaker
set_option maxRecDepth 20000 in
theorem ggX0_threadsOf_X0_threadOfWord : GoodIn wsX0_threadsOf wsX0_threadOfWord := goodIn_r _ [11, 12, 13, 14, 4, 15, 22, 23, 24, 25, 26, 27, 28, 29, 30, 31] (by decide +kernel) (by decide +kernel)
set_option maxRecDepth 20000 in
theorem gX0_threadsOf_X0_threadOfWord : GoodIn wsX0_threadsOf (wsV RX0 140 RX0 yX0_threadOfWord wsX0_threadOfWord) := goodIn_app (goodIn_of _ (by decide +kernel)) ggX0_threadsOf_X0_threadOfWord
set_option maxRecDepth 20000 in
theorem ggX0_threadsOf_X0_speakerOfWord : GoodIn wsX0_threadsOf wsX0_speakerOfWord := goodIn_r _ [19, 20, 21, 13, 14, 4, 15, 22, 23, 24, 25, 26, 27, 28, 29, 30, 31] (by decide +kernel) (by decide +kernel)
set_option maxRecDepth 20000 in
theorem gX0_threadsOf_X0_speakerOfWord : GoodIn wsX0_threadsOf (wsV RX0 89 RX0 yX0_speakerOfWord wsX0_speakerOfWord) := goodIn_app (goodIn_of _ (by decide +kernel)) ggX0_threadsOf_X0_speakerOfWord
theorem dX0_threadsOf_0 : decode cX0_threadsOf 0 = .ok (.iload_n 1, 1) := by decide +kernel
theorem dX0_threadsOf_1 : decode cX0_threadsOf 1 = .ok (.invokestatic 29, 3) := by decide +kernel
theorem dX0_threadsOf_4 : decode cX0_threadsOf 4 = .ok (.iconst 0, 1) := by decide +kernel
theorem dX0_threadsOf_5 : decode cX0_threadsOf 5 = .ok (.istore_n 2, 1) := by decide +kernel
theorem dX0_threadsOf_6 : decode cX0_threadsOf 6 = .ok (.iconst (-1), 1) := by decide +kernel
theorem dX0_threadsOf_7 : decode cX0_threadsOf 7 = .ok (.istore_n 3, 1) := by decide +kernel
theorem dX0_threadsOf_8 : decode cX0_threadsOf 8 = .ok (.iconst 0, 1) := by decide +kernel
theorem dX0_threadsOf_9 : decode cX0_threadsOf 9 = .ok (.istore 4, 2) := by decide +kernel
theorem dX0_threadsOf_11 : decode cX0_threadsOf 11 = .ok (.iload 4, 2) := by decide +kernel
theorem dX0_threadsOf_13 : decode cX0_threadsOf 13 = .ok (.aload_n 0, 1) := by decide +kernel
theorem dX0_threadsOf_14 : decode cX0_threadsOf 14 = .ok (.getfield 116, 3) := by decide +kernel
theorem dX0_threadsOf_17 : decode cX0_threadsOf 17 = .ok (.if_icmp .ge 39, 3) := by decide +kernel
theorem dX0_threadsOf_20 : decode cX0_threadsOf 20 = .ok (.aload_n 0, 1) := by decide +kernel
theorem dX0_threadsOf_21 : decode cX0_threadsOf 21 = .ok (.iload 4, 2) := by decide +kernel
theorem dX0_threadsOf_23 : decode cX0_threadsOf 23 = .ok (.invokevirtual 140, 3) := by decide +kernel
theorem dX0_threadsOf_26 : decode cX0_threadsOf 26 = .ok (.istore 5, 2) := by decide +kernel
theorem dX0_threadsOf_28 : decode cX0_threadsOf 28 = .ok (.aload_n 0, 1) := by decide +kernel
theorem dX0_threadsOf_29 : decode cX0_threadsOf 29 = .ok (.iload 4, 2) := by decide +kernel
theorem dX0_threadsOf_31 : decode cX0_threadsOf 31 = .ok (.invokevirtual 89, 3) := by decide +kernel
theorem dX0_threadsOf_34 : decode cX0_threadsOf 34 = .ok (.iload_n 1, 1) := by decide +kernel
theorem dX0_threadsOf_35 : decode cX0_threadsOf 35 = .ok (.if_icmp .ne 15, 3) := by decide +kernel
theorem dX0_threadsOf_38 : decode cX0_threadsOf 38 = .ok (.iload 5, 2) := by decide +kernel
theorem dX0_threadsOf_40 : decode cX0_threadsOf 40 = .ok (.iload_n 3, 1) := by decide +kernel
theorem dX0_threadsOf_41 : decode cX0_threadsOf 41 = .ok (.if_icmp .eq 9, 3) := by decide +kernel
theorem dX0_threadsOf_44 : decode cX0_threadsOf 44 = .ok (.iload 5, 2) := by decide +kernel
theorem dX0_threadsOf_46 : decode cX0_threadsOf 46 = .ok (.istore_n 3, 1) := by decide +kernel
theorem dX0_threadsOf_47 : decode cX0_threadsOf 47 = .ok (.iinc 2 1, 3) := by decide +kernel
theorem dX0_threadsOf_50 : decode cX0_threadsOf 50 = .ok (.iinc 4 1, 3) := by decide +kernel
theorem dX0_threadsOf_53 : decode cX0_threadsOf 53 = .ok (.goto (-42), 3) := by decide +kernel
theorem dX0_threadsOf_56 : decode cX0_threadsOf 56 = .ok (.iload_n 2, 1) := by decide +kernel
theorem dX0_threadsOf_57 : decode cX0_threadsOf 57 = .ok (.ireturn, 1) := by decide +kernel
set_option maxRecDepth 20000 in
theorem ggX0_topicsIn_X0_requireThread : GoodIn wsX0_topicsIn wsX0_requireThread := goodIn_ca (goodIn_r _ [6, 7, 8, 9, 31, 32, 33, 34, 35, 36, 37, 38, 39, 40] (by decide +kernel) (by decide +kernel)) (goodIn_sub (fun _ h => List.mem_cons_of_mem _ (List.mem_append_right _ h)) (by decide +kernel))
set_option maxRecDepth 20000 in
theorem gX0_topicsIn_X0_requireThread : GoodIn wsX0_topicsIn (wsV RX0 143 RX0 yX0_requireThread wsX0_requireThread) := goodIn_app (goodIn_of _ (by decide +kernel)) ggX0_topicsIn_X0_requireThread
set_option maxRecDepth 20000 in
theorem ggX0_topicsIn_X0_threadOfWord : GoodIn wsX0_topicsIn wsX0_threadOfWord := goodIn_r _ [13, 14, 15, 16, 5, 17, 31, 32, 33, 34, 35, 36, 37, 38, 39, 40] (by decide +kernel) (by decide +kernel)
set_option maxRecDepth 20000 in
theorem gX0_topicsIn_X0_threadOfWord : GoodIn wsX0_topicsIn (wsV RX0 140 RX0 yX0_threadOfWord wsX0_threadOfWord) := goodIn_app (goodIn_of _ (by decide +kernel)) ggX0_topicsIn_X0_threadOfWord
set_option maxRecDepth 20000 in
theorem ggX0_topicsIn_X0_topicOfWord : GoodIn wsX0_topicsIn wsX0_topicOfWord := goodIn_r _ [21, 22, 23, 15, 16, 5, 17, 31, 32, 33, 34, 35, 36, 37, 38, 39, 40] (by decide +kernel) (by decide +kernel)
set_option maxRecDepth 20000 in
theorem gX0_topicsIn_X0_topicOfWord : GoodIn wsX0_topicsIn (wsV RX0 93 RX0 yX0_topicOfWord wsX0_topicOfWord) := goodIn_app (goodIn_of _ (by decide +kernel)) ggX0_topicsIn_X0_topicOfWord
set_option maxRecDepth 20000 in
theorem ggX0_topicsIn_J6_bitCount_0f7a4 : GoodIn wsX0_topicsIn wsJ6_bitCount_0f7a4 := goodIn_r _ [27, 28, 29, 30] (by decide +kernel) (by decide +kernel)
set_option maxRecDepth 20000 in
theorem gX0_topicsIn_J6_bitCount_0f7a4 : GoodIn wsX0_topicsIn (va_wsS RX0 149 yJ6_bitCount_0f7a4 wsJ6_bitCount_0f7a4) := goodIn_app (goodIn_of _ (by decide +kernel)) ggX0_topicsIn_J6_bitCount_0f7a4
theorem dX0_topicsIn_0 : decode cX0_topicsIn 0 = .ok (.aload_n 0, 1) := by decide +kernel
theorem dX0_topicsIn_1 : decode cX0_topicsIn 1 = .ok (.iload_n 1, 1) := by decide +kernel
theorem dX0_topicsIn_2 : decode cX0_topicsIn 2 = .ok (.invokevirtual 143, 3) := by decide +kernel
theorem dX0_topicsIn_5 : decode cX0_topicsIn 5 = .ok (.iconst 0, 1) := by decide +kernel
theorem dX0_topicsIn_6 : decode cX0_topicsIn 6 = .ok (.istore_n 2, 1) := by decide +kernel
theorem dX0_topicsIn_7 : decode cX0_topicsIn 7 = .ok (.iconst 0, 1) := by decide +kernel
theorem dX0_topicsIn_8 : decode cX0_topicsIn 8 = .ok (.istore_n 3, 1) := by decide +kernel
theorem dX0_topicsIn_9 : decode cX0_topicsIn 9 = .ok (.iload_n 3, 1) := by decide +kernel
theorem dX0_topicsIn_10 : decode cX0_topicsIn 10 = .ok (.aload_n 0, 1) := by decide +kernel
theorem dX0_topicsIn_11 : decode cX0_topicsIn 11 = .ok (.getfield 116, 3) := by decide +kernel
theorem dX0_topicsIn_14 : decode cX0_topicsIn 14 = .ok (.if_icmp .ge 28, 3) := by decide +kernel
theorem dX0_topicsIn_17 : decode cX0_topicsIn 17 = .ok (.aload_n 0, 1) := by decide +kernel
theorem dX0_topicsIn_18 : decode cX0_topicsIn 18 = .ok (.iload_n 3, 1) := by decide +kernel
theorem dX0_topicsIn_19 : decode cX0_topicsIn 19 = .ok (.invokevirtual 140, 3) := by decide +kernel
theorem dX0_topicsIn_22 : decode cX0_topicsIn 22 = .ok (.iload_n 1, 1) := by decide +kernel
theorem dX0_topicsIn_23 : decode cX0_topicsIn 23 = .ok (.if_icmp .ne 13, 3) := by decide +kernel
theorem dX0_topicsIn_26 : decode cX0_topicsIn 26 = .ok (.iload_n 2, 1) := by decide +kernel
theorem dX0_topicsIn_27 : decode cX0_topicsIn 27 = .ok (.iconst 1, 1) := by decide +kernel
theorem dX0_topicsIn_28 : decode cX0_topicsIn 28 = .ok (.aload_n 0, 1) := by decide +kernel
theorem dX0_topicsIn_29 : decode cX0_topicsIn 29 = .ok (.iload_n 3, 1) := by decide +kernel
theorem dX0_topicsIn_30 : decode cX0_topicsIn 30 = .ok (.invokevirtual 93, 3) := by decide +kernel
theorem dX0_topicsIn_33 : decode cX0_topicsIn 33 = .ok (.ishl, 1) := by decide +kernel
theorem dX0_topicsIn_34 : decode cX0_topicsIn 34 = .ok (.ior, 1) := by decide +kernel
theorem dX0_topicsIn_35 : decode cX0_topicsIn 35 = .ok (.istore_n 2, 1) := by decide +kernel
theorem dX0_topicsIn_36 : decode cX0_topicsIn 36 = .ok (.iinc 3 1, 3) := by decide +kernel
theorem dX0_topicsIn_39 : decode cX0_topicsIn 39 = .ok (.goto (-30), 3) := by decide +kernel
theorem dX0_topicsIn_42 : decode cX0_topicsIn 42 = .ok (.iload_n 2, 1) := by decide +kernel
theorem dX0_topicsIn_43 : decode cX0_topicsIn 43 = .ok (.invokestatic 149, 3) := by decide +kernel
theorem dX0_topicsIn_46 : decode cX0_topicsIn 46 = .ok (.ireturn, 1) := by decide +kernel
set_option maxRecDepth 20000 in
theorem ggX0_costOfMending_X0_requireGap : GoodIn wsX0_costOfMending wsX0_requireGap := goodIn_ca (goodIn_r _ [5, 6, 7, 8, 9, 10, 4, 11, 12, 68, 69, 70, 71, 72, 73, 74, 75, 76, 77] (by decide +kernel) (by decide +kernel)) (goodIn_sub (fun _ h => List.mem_cons_of_mem _ (List.mem_append_right _ h)) (by decide +kernel))
set_option maxRecDepth 20000 in
theorem gX0_costOfMending_X0_requireGap : GoodIn wsX0_costOfMending (wsV RX0 72 RX0 yX0_requireGap wsX0_requireGap) := goodIn_app (goodIn_of _ (by decide +kernel)) ggX0_costOfMending_X0_requireGap
set_option maxRecDepth 20000 in
theorem ggX0_costOfMending_X0_mendingCost : GoodIn wsX0_costOfMending wsX0_mendingCost := goodIn_r _ [16, 17, 18, 19, 20, 21, 22, 23, 4, 24, 25, 26, 27, 28, 29, 30, 31, 32, 33, 34, 35, 36, 37, 38, 39, 40, 41, 42, 43, 44, 45, 46, 47, 48, 49, 50, 51, 52, 53, 54, 55, 56, 57, 58, 59, 60, 61, 62, 63, 64, 65, 66, 67, 68, 69, 70, 71, 72, 73, 74, 75, 76, 77] (by decide +kernel) (by decide +kernel)
set_option maxRecDepth 20000 in
theorem gX0_costOfMending_X0_mendingCost : GoodIn wsX0_costOfMending (wsV RX0 154 RX0 yX0_mendingCost wsX0_mendingCost) := goodIn_app (goodIn_of _ (by decide +kernel)) ggX0_costOfMending_X0_mendingCost
theorem dX0_costOfMending_0 : decode cX0_costOfMending 0 = .ok (.aload_n 0, 1) := by decide +kernel
theorem dX0_costOfMending_1 : decode cX0_costOfMending 1 = .ok (.iload_n 1, 1) := by decide +kernel
theorem dX0_costOfMending_2 : decode cX0_costOfMending 2 = .ok (.invokevirtual 72, 3) := by decide +kernel
theorem dX0_costOfMending_5 : decode cX0_costOfMending 5 = .ok (.aload_n 0, 1) := by decide +kernel
theorem dX0_costOfMending_6 : decode cX0_costOfMending 6 = .ok (.iload_n 1, 1) := by decide +kernel
theorem dX0_costOfMending_7 : decode cX0_costOfMending 7 = .ok (.invokevirtual 154, 3) := by decide +kernel
theorem dX0_costOfMending_10 : decode cX0_costOfMending 10 = .ok (.ireturn, 1) := by decide +kernel
set_option maxRecDepth 20000 in
theorem ggX0_costOfAll_X0_gapCount : GoodIn wsX0_costOfAll wsX0_gapCount := goodIn_r _ [5, 6, 62, 63, 64, 65, 66, 67, 68, 69, 70, 71] (by decide +kernel) (by decide +kernel)
set_option maxRecDepth 20000 in
theorem gX0_costOfAll_X0_gapCount : GoodIn wsX0_costOfAll (wsV RX0 157 RX0 yX0_gapCount wsX0_gapCount) := goodIn_app (goodIn_of _ (by decide +kernel)) ggX0_costOfAll_X0_gapCount
set_option maxRecDepth 20000 in
theorem ggX0_costOfAll_X0_mendingCost : GoodIn wsX0_costOfAll wsX0_mendingCost := goodIn_r _ [10, 11, 12, 13, 14, 15, 16, 17, 4, 18, 19, 20, 21, 22, 23, 24, 25, 26, 27, 28, 29, 30, 31, 32, 33, 34, 35, 36, 37, 38, 39, 40, 41, 42, 43, 44, 45, 46, 47, 48, 49, 50, 51, 52, 53, 54, 55, 56, 57, 58, 59, 60, 61, 62, 63, 64, 65, 66, 67, 68, 69, 70, 71] (by decide +kernel) (by decide +kernel)
set_option maxRecDepth 20000 in
theorem gX0_costOfAll_X0_mendingCost : GoodIn wsX0_costOfAll (wsV RX0 154 RX0 yX0_mendingCost wsX0_mendingCost) := goodIn_app (goodIn_of _ (by decide +kernel)) ggX0_costOfAll_X0_mendingCost
theorem dX0_costOfAll_0 : decode cX0_costOfAll 0 = .ok (.iconst 0, 1) := by decide +kernel
theorem dX0_costOfAll_1 : decode cX0_costOfAll 1 = .ok (.istore_n 1, 1) := by decide +kernel
theorem dX0_costOfAll_2 : decode cX0_costOfAll 2 = .ok (.iconst 0, 1) := by decide +kernel
theorem dX0_costOfAll_3 : decode cX0_costOfAll 3 = .ok (.istore_n 2, 1) := by decide +kernel
theorem dX0_costOfAll_4 : decode cX0_costOfAll 4 = .ok (.iload_n 2, 1) := by decide +kernel
theorem dX0_costOfAll_5 : decode cX0_costOfAll 5 = .ok (.aload_n 0, 1) := by decide +kernel
theorem dX0_costOfAll_6 : decode cX0_costOfAll 6 = .ok (.invokevirtual 157, 3) := by decide +kernel
theorem dX0_costOfAll_9 : decode cX0_costOfAll 9 = .ok (.if_icmp .ge 17, 3) := by decide +kernel
theorem dX0_costOfAll_12 : decode cX0_costOfAll 12 = .ok (.iload_n 1, 1) := by decide +kernel
theorem dX0_costOfAll_13 : decode cX0_costOfAll 13 = .ok (.aload_n 0, 1) := by decide +kernel
theorem dX0_costOfAll_14 : decode cX0_costOfAll 14 = .ok (.iload_n 2, 1) := by decide +kernel
theorem dX0_costOfAll_15 : decode cX0_costOfAll 15 = .ok (.invokevirtual 154, 3) := by decide +kernel
theorem dX0_costOfAll_18 : decode cX0_costOfAll 18 = .ok (.iadd, 1) := by decide +kernel
theorem dX0_costOfAll_19 : decode cX0_costOfAll 19 = .ok (.istore_n 1, 1) := by decide +kernel
theorem dX0_costOfAll_20 : decode cX0_costOfAll 20 = .ok (.iinc 2 1, 3) := by decide +kernel
theorem dX0_costOfAll_23 : decode cX0_costOfAll 23 = .ok (.goto (-19), 3) := by decide +kernel
theorem dX0_costOfAll_26 : decode cX0_costOfAll 26 = .ok (.iload_n 1, 1) := by decide +kernel
theorem dX0_costOfAll_27 : decode cX0_costOfAll 27 = .ok (.ireturn, 1) := by decide +kernel
set_option maxRecDepth 20000 in
theorem ggX0_brokenAfterSplice_X0_requireGap : GoodIn wsX0_brokenAfterSplice wsX0_requireGap := goodIn_ca (goodIn_r _ [5, 6, 7, 8, 9, 10, 4, 11, 12, 85, 86, 87, 88, 89, 90, 91, 92, 93, 94] (by decide +kernel) (by decide +kernel)) (goodIn_sub (fun _ h => List.mem_cons_of_mem _ (List.mem_append_left _ (List.mem_append_right _ h))) (by decide +kernel))
set_option maxRecDepth 20000 in
theorem gX0_brokenAfterSplice_X0_requireGap : GoodIn wsX0_brokenAfterSplice (wsV RX0 72 RX0 yX0_requireGap wsX0_requireGap) := goodIn_app (goodIn_of _ (by decide +kernel)) ggX0_brokenAfterSplice_X0_requireGap
set_option maxRecDepth 20000 in
theorem ggX0_brokenAfterSplice_X0_requireUntied : GoodIn wsX0_brokenAfterSplice wsX0_requireUntied := goodIn_ca (goodIn_r _ [16, 17, 18, 19, 20, 21, 4, 22, 23, 24, 25, 26, 27, 85, 86, 87, 88, 89, 90, 91, 92, 93, 94] (by decide +kernel) (by decide +kernel)) (goodIn_sub (fun _ h => List.mem_cons_of_mem _ (List.mem_append_right _ h)) (by decide +kernel))
set_option maxRecDepth 20000 in
theorem gX0_brokenAfterSplice_X0_requireUntied : GoodIn wsX0_brokenAfterSplice (wsV RX0 75 RX0 yX0_requireUntied wsX0_requireUntied) := goodIn_app (goodIn_of _ (by decide +kernel)) ggX0_brokenAfterSplice_X0_requireUntied
set_option maxRecDepth 20000 in
theorem ggX0_brokenAfterSplice_X0_gapsOfKind : GoodIn wsX0_brokenAfterSplice wsX0_gapsOfKind := goodIn_r _ [31, 8, 9, 10, 4, 11, 12, 32, 33, 34, 35, 19, 20, 21, 22, 23, 24, 25, 26, 27, 36, 37, 38, 39, 40, 41, 42, 43, 44, 45, 46, 47, 48, 49, 50, 51, 52, 53, 54, 55, 56, 57, 58, 59, 60, 61, 62, 63, 64, 65, 66, 67, 68, 69, 70, 71, 72, 73, 85, 86, 87, 88, 89, 90, 91, 92, 93, 94] (by decide +kernel) (by decide +kernel)
set_option maxRecDepth 20000 in
theorem gX0_brokenAfterSplice_X0_gapsOfKind : GoodIn wsX0_brokenAfterSplice (wsV RX0 137 RX0 yX0_gapsOfKind wsX0_gapsOfKind) := goodIn_app (goodIn_of _ (by decide +kernel)) ggX0_brokenAfterSplice_X0_gapsOfKind
set_option maxRecDepth 20000 in
theorem ggX0_brokenAfterSplice_X0_brokenChangeBySplice : GoodIn wsX0_brokenAfterSplice wsX0_brokenChangeBySplice := goodIn_r _ [77, 32, 33, 34, 4, 35, 19, 20, 21, 22, 23, 24, 25, 26, 27, 36, 37, 38, 39, 40, 41, 42, 43, 44, 45, 46, 47, 48, 49, 50, 51, 52, 53, 54, 55, 56, 57, 58, 59, 60, 61, 62, 63, 64, 65, 66, 67, 68, 69, 70, 71, 72, 73, 78, 79, 80, 81, 82, 83, 84, 85, 86, 87, 88, 89, 90, 91, 92, 93, 94] (by decide +kernel) (by decide +kernel)
set_option maxRecDepth 20000 in
theorem gX0_brokenAfterSplice_X0_brokenChangeBySplice : GoodIn wsX0_brokenAfterSplice (wsV RX0 161 RX0 yX0_brokenChangeBySplice wsX0_brokenChangeBySplice) := goodIn_app (goodIn_of _ (by decide +kernel)) ggX0_brokenAfterSplice_X0_brokenChangeBySplice
theorem dX0_brokenAfterSplice_0 : decode cX0_brokenAfterSplice 0 = .ok (.aload_n 0, 1) := by decide +kernel
theorem dX0_brokenAfterSplice_1 : decode cX0_brokenAfterSplice 1 = .ok (.iload_n 1, 1) := by decide +kernel
theorem dX0_brokenAfterSplice_2 : decode cX0_brokenAfterSplice 2 = .ok (.invokevirtual 72, 3) := by decide +kernel
theorem dX0_brokenAfterSplice_5 : decode cX0_brokenAfterSplice 5 = .ok (.aload_n 0, 1) := by decide +kernel
theorem dX0_brokenAfterSplice_6 : decode cX0_brokenAfterSplice 6 = .ok (.iload_n 1, 1) := by decide +kernel
theorem dX0_brokenAfterSplice_7 : decode cX0_brokenAfterSplice 7 = .ok (.invokevirtual 75, 3) := by decide +kernel
theorem dX0_brokenAfterSplice_10 : decode cX0_brokenAfterSplice 10 = .ok (.aload_n 0, 1) := by decide +kernel
theorem dX0_brokenAfterSplice_11 : decode cX0_brokenAfterSplice 11 = .ok (.iconst 2, 1) := by decide +kernel
theorem dX0_brokenAfterSplice_12 : decode cX0_brokenAfterSplice 12 = .ok (.invokevirtual 137, 3) := by decide +kernel
theorem dX0_brokenAfterSplice_15 : decode cX0_brokenAfterSplice 15 = .ok (.aload_n 0, 1) := by decide +kernel
theorem dX0_brokenAfterSplice_16 : decode cX0_brokenAfterSplice 16 = .ok (.iload_n 1, 1) := by decide +kernel
theorem dX0_brokenAfterSplice_17 : decode cX0_brokenAfterSplice 17 = .ok (.invokevirtual 161, 3) := by decide +kernel
theorem dX0_brokenAfterSplice_20 : decode cX0_brokenAfterSplice 20 = .ok (.iadd, 1) := by decide +kernel
theorem dX0_brokenAfterSplice_21 : decode cX0_brokenAfterSplice 21 = .ok (.ireturn, 1) := by decide +kernel
set_option maxRecDepth 20000 in
theorem ggX0_bestSplice_X0_gapCount : GoodIn wsX0_bestSplice wsX0_gapCount := goodIn_r _ [5, 6, 69, 70, 71, 72, 73, 74, 75, 76, 77, 78] (by decide +kernel) (by decide +kernel)
set_option maxRecDepth 20000 in
theorem gX0_bestSplice_X0_gapCount : GoodIn wsX0_bestSplice (wsV RX0 157 RX0 yX0_gapCount wsX0_gapCount) := goodIn_app (goodIn_of _ (by decide +kernel)) ggX0_bestSplice_X0_gapCount
set_option maxRecDepth 20000 in
theorem ggX0_bestSplice_X0_gapTied : GoodIn wsX0_bestSplice wsX0_gapTied := goodIn_r _ [10, 11, 12, 13, 14, 4, 15, 69, 70, 71, 72, 73, 74, 75, 76, 77, 78] (by decide +kernel) (by decide +kernel)
set_option maxRecDepth 20000 in
theorem gX0_bestSplice_X0_gapTied : GoodIn wsX0_bestSplice (wsV RX0 131 RX0 yX0_gapTied wsX0_gapTied) := goodIn_app (goodIn_of _ (by decide +kernel)) ggX0_bestSplice_X0_gapTied
set_option maxRecDepth 20000 in
theorem ggX0_bestSplice_X0_brokenChangeBySplice : GoodIn wsX0_bestSplice wsX0_brokenChangeBySplice := goodIn_r _ [19, 20, 21, 22, 4, 23, 7, 8, 9, 10, 11, 12, 13, 14, 15, 24, 25, 26, 27, 28, 29, 30, 31, 32, 33, 34, 35, 36, 37, 38, 39, 40, 41, 42, 43, 44, 45, 46, 47, 48, 49, 50, 51, 52, 53, 54, 55, 56, 57, 58, 59, 60, 61, 62, 63, 64, 65, 66, 67, 68, 69, 70, 71, 72, 73, 74, 75, 76, 77, 78] (by decide +kernel) (by decide +kernel)
set_option maxRecDepth 20000 in
theorem gX0_bestSplice_X0_brokenChangeBySplice : GoodIn wsX0_bestSplice (wsV RX0 161 RX0 yX0_brokenChangeBySplice wsX0_brokenChangeBySplice) := goodIn_app (goodIn_of _ (by decide +kernel)) ggX0_bestSplice_X0_brokenChangeBySplice
theorem dX0_bestSplice_0 : decode cX0_bestSplice 0 = .ok (.iconst (-1), 1) := by decide +kernel
theorem dX0_bestSplice_1 : decode cX0_bestSplice 1 = .ok (.istore_n 1, 1) := by decide +kernel
theorem dX0_bestSplice_2 : decode cX0_bestSplice 2 = .ok (.iconst 0, 1) := by decide +kernel
theorem dX0_bestSplice_3 : decode cX0_bestSplice 3 = .ok (.istore_n 2, 1) := by decide +kernel
theorem dX0_bestSplice_4 : decode cX0_bestSplice 4 = .ok (.iconst 0, 1) := by decide +kernel
theorem dX0_bestSplice_5 : decode cX0_bestSplice 5 = .ok (.istore_n 3, 1) := by decide +kernel
theorem dX0_bestSplice_6 : decode cX0_bestSplice 6 = .ok (.iload_n 3, 1) := by decide +kernel
theorem dX0_bestSplice_7 : decode cX0_bestSplice 7 = .ok (.aload_n 0, 1) := by decide +kernel
theorem dX0_bestSplice_8 : decode cX0_bestSplice 8 = .ok (.invokevirtual 157, 3) := by decide +kernel
theorem dX0_bestSplice_11 : decode cX0_bestSplice 11 = .ok (.if_icmp .ge 34, 3) := by decide +kernel
theorem dX0_bestSplice_14 : decode cX0_bestSplice 14 = .ok (.aload_n 0, 1) := by decide +kernel
theorem dX0_bestSplice_15 : decode cX0_bestSplice 15 = .ok (.iload_n 3, 1) := by decide +kernel
theorem dX0_bestSplice_16 : decode cX0_bestSplice 16 = .ok (.invokevirtual 131, 3) := by decide +kernel
theorem dX0_bestSplice_19 : decode cX0_bestSplice 19 = .ok (.ifCond .ne 20, 3) := by decide +kernel
theorem dX0_bestSplice_22 : decode cX0_bestSplice 22 = .ok (.aload_n 0, 1) := by decide +kernel
theorem dX0_bestSplice_23 : decode cX0_bestSplice 23 = .ok (.iload_n 3, 1) := by decide +kernel
theorem dX0_bestSplice_24 : decode cX0_bestSplice 24 = .ok (.invokevirtual 161, 3) := by decide +kernel
theorem dX0_bestSplice_27 : decode cX0_bestSplice 27 = .ok (.iload_n 2, 1) := by decide +kernel
theorem dX0_bestSplice_28 : decode cX0_bestSplice 28 = .ok (.if_icmp .ge 11, 3) := by decide +kernel
theorem dX0_bestSplice_31 : decode cX0_bestSplice 31 = .ok (.aload_n 0, 1) := by decide +kernel
theorem dX0_bestSplice_32 : decode cX0_bestSplice 32 = .ok (.iload_n 3, 1) := by decide +kernel
theorem dX0_bestSplice_33 : decode cX0_bestSplice 33 = .ok (.invokevirtual 161, 3) := by decide +kernel
theorem dX0_bestSplice_36 : decode cX0_bestSplice 36 = .ok (.istore_n 2, 1) := by decide +kernel
theorem dX0_bestSplice_37 : decode cX0_bestSplice 37 = .ok (.iload_n 3, 1) := by decide +kernel
theorem dX0_bestSplice_38 : decode cX0_bestSplice 38 = .ok (.istore_n 1, 1) := by decide +kernel
theorem dX0_bestSplice_39 : decode cX0_bestSplice 39 = .ok (.iinc 3 1, 3) := by decide +kernel
theorem dX0_bestSplice_42 : decode cX0_bestSplice 42 = .ok (.goto (-36), 3) := by decide +kernel
theorem dX0_bestSplice_45 : decode cX0_bestSplice 45 = .ok (.iload_n 1, 1) := by decide +kernel
theorem dX0_bestSplice_46 : decode cX0_bestSplice 46 = .ok (.ireturn, 1) := by decide +kernel
set_option maxRecDepth 20000 in
theorem ggX0_wouldBreak_X0_requireSpeaker : GoodIn wsX0_wouldBreak wsX0_requireSpeaker := goodIn_ca (goodIn_r _ [7, 8, 9] (by decide +kernel) (by decide +kernel)) (goodIn_sub (fun _ h => List.mem_cons_of_mem _ (List.mem_append_left _ (List.mem_append_right _ h))) (by decide +kernel))
set_option maxRecDepth 20000 in
theorem gX0_wouldBreak_X0_requireSpeaker : GoodIn wsX0_wouldBreak (va_wsS RX0 29 yX0_requireSpeaker wsX0_requireSpeaker) := goodIn_app (goodIn_of _ (by decide +kernel)) ggX0_wouldBreak_X0_requireSpeaker
set_option maxRecDepth 20000 in
theorem ggX0_wouldBreak_X0_requireTopic : GoodIn wsX0_wouldBreak wsX0_requireTopic := goodIn_ca (goodIn_r _ [12, 13, 14] (by decide +kernel) (by decide +kernel)) (goodIn_sub (fun _ h => List.mem_cons_of_mem _ (List.mem_append_right _ h)) (by decide +kernel))
set_option maxRecDepth 20000 in
theorem gX0_wouldBreak_X0_requireTopic : GoodIn wsX0_wouldBreak (va_wsS RX0 33 yX0_requireTopic wsX0_requireTopic) := goodIn_app (goodIn_of _ (by decide +kernel)) ggX0_wouldBreak_X0_requireTopic
set_option maxRecDepth 20000 in
theorem ggX0_wouldBreak_X0_read : GoodIn wsX0_wouldBreak wsX0_read := goodIn_r _ [17] (by decide +kernel) (by decide +kernel)
set_option maxRecDepth 20000 in
theorem gX0_wouldBreak_X0_read : GoodIn wsX0_wouldBreak (va_wsS RX0 78 yX0_read wsX0_read) := goodIn_app (goodIn_of _ (by decide +kernel)) ggX0_wouldBreak_X0_read
set_option maxRecDepth 20000 in
theorem ggX0_wouldBreak_X0_topicOfWord : GoodIn wsX0_wouldBreak wsX0_topicOfWord := goodIn_r _ [21, 22, 3, 15, 16, 6, 17, 44, 45, 46, 47, 48, 49, 50, 51, 52, 53] (by decide +kernel) (by decide +kernel)
set_option maxRecDepth 20000 in
theorem gX0_wouldBreak_X0_topicOfWord : GoodIn wsX0_wouldBreak (wsV RX0 93 RX0 yX0_topicOfWord wsX0_topicOfWord) := goodIn_app (goodIn_of _ (by decide +kernel)) ggX0_wouldBreak_X0_topicOfWord
set_option maxRecDepth 20000 in
theorem ggX0_wouldBreak_X0_topicDistance : GoodIn wsX0_wouldBreak wsX0_topicDistance := goodIn_r _ [25, 26, 27, 28, 29, 30, 31, 32] (by decide +kernel) (by decide +kernel)
set_option maxRecDepth 20000 in
theorem gX0_wouldBreak_X0_topicDistance : GoodIn wsX0_wouldBreak (va_wsS RX0 164 yX0_topicDistance wsX0_topicDistance) := goodIn_app (goodIn_of _ (by decide +kernel)) ggX0_wouldBreak_X0_topicDistance
set_option maxRecDepth 20000 in
theorem ggX0_wouldBreak_X0_speakerOfWord : GoodIn wsX0_wouldBreak wsX0_speakerOfWord := goodIn_r _ [36, 37, 3, 15, 16, 6, 17, 44, 45, 46, 47, 48, 49, 50, 51, 52, 53] (by decide +kernel) (by decide +kernel)
set_option maxRecDepth 20000 in
theorem gX0_wouldBreak_X0_speakerOfWord : GoodIn wsX0_wouldBreak (wsV RX0 89 RX0 yX0_speakerOfWord wsX0_speakerOfWord) := goodIn_app (goodIn_of _ (by decide +kernel)) ggX0_wouldBreak_X0_speakerOfWord
set_option maxRecDepth 20000 in
theorem ggX0_wouldBreak_X0_kindOf : GoodIn wsX0_wouldBreak wsX0_kindOf := goodIn_r _ [40, 41, 42, 6, 43] (by decide +kernel) (by decide +kernel)
set_option maxRecDepth 20000 in
theorem gX0_wouldBreak_X0_kindOf : GoodIn wsX0_wouldBreak (va_wsS RX0 167 yX0_kindOf wsX0_kindOf) := goodIn_app (goodIn_of _ (by decide +kernel)) ggX0_wouldBreak_X0_kindOf
theorem dX0_wouldBreak_0 : decode cX0_wouldBreak 0 = .ok (.iload_n 1, 1) := by decide +kernel
theorem dX0_wouldBreak_1 : decode cX0_wouldBreak 1 = .ok (.invokestatic 29, 3) := by decide +kernel
theorem dX0_wouldBreak_4 : decode cX0_wouldBreak 4 = .ok (.iload_n 2, 1) := by decide +kernel
theorem dX0_wouldBreak_5 : decode cX0_wouldBreak 5 = .ok (.invokestatic 33, 3) := by decide +kernel
theorem dX0_wouldBreak_8 : decode cX0_wouldBreak 8 = .ok (.aload_n 0, 1) := by decide +kernel
theorem dX0_wouldBreak_9 : decode cX0_wouldBreak 9 = .ok (.getfield 116, 3) := by decide +kernel
theorem dX0_wouldBreak_12 : decode cX0_wouldBreak 12 = .ok (.ifCond .ne 5, 3) := by decide +kernel
theorem dX0_wouldBreak_15 : decode cX0_wouldBreak 15 = .ok (.iconst 0, 1) := by decide +kernel
theorem dX0_wouldBreak_16 : decode cX0_wouldBreak 16 = .ok (.ireturn, 1) := by decide +kernel
theorem dX0_wouldBreak_17 : decode cX0_wouldBreak 17 = .ok (.aload_n 0, 1) := by decide +kernel
theorem dX0_wouldBreak_18 : decode cX0_wouldBreak 18 = .ok (.getfield 116, 3) := by decide +kernel
theorem dX0_wouldBreak_21 : decode cX0_wouldBreak 21 = .ok (.iconst 1, 1) := by decide +kernel
theorem dX0_wouldBreak_22 : decode cX0_wouldBreak 22 = .ok (.isub, 1) := by decide +kernel
theorem dX0_wouldBreak_23 : decode cX0_wouldBreak 23 = .ok (.istore_n 3, 1) := by decide +kernel
theorem dX0_wouldBreak_24 : decode cX0_wouldBreak 24 = .ok (.aload_n 0, 1) := by decide +kernel
theorem dX0_wouldBreak_25 : decode cX0_wouldBreak 25 = .ok (.getfield 69, 3) := by decide +kernel
theorem dX0_wouldBreak_28 : decode cX0_wouldBreak 28 = .ok (.iconst 1, 1) := by decide +kernel
theorem dX0_wouldBreak_29 : decode cX0_wouldBreak 29 = .ok (.isub, 1) := by decide +kernel
theorem dX0_wouldBreak_30 : decode cX0_wouldBreak 30 = .ok (.aload_n 0, 1) := by decide +kernel
theorem dX0_wouldBreak_31 : decode cX0_wouldBreak 31 = .ok (.getfield 19, 3) := by decide +kernel
theorem dX0_wouldBreak_34 : decode cX0_wouldBreak 34 = .ok (.iload_n 3, 1) := by decide +kernel
theorem dX0_wouldBreak_35 : decode cX0_wouldBreak 35 = .ok (.invokestatic 78, 3) := by decide +kernel
theorem dX0_wouldBreak_38 : decode cX0_wouldBreak 38 = .ok (.isub, 1) := by decide +kernel
theorem dX0_wouldBreak_39 : decode cX0_wouldBreak 39 = .ok (.istore 4, 2) := by decide +kernel
theorem dX0_wouldBreak_41 : decode cX0_wouldBreak 41 = .ok (.aload_n 0, 1) := by decide +kernel
theorem dX0_wouldBreak_42 : decode cX0_wouldBreak 42 = .ok (.iload_n 3, 1) := by decide +kernel
theorem dX0_wouldBreak_43 : decode cX0_wouldBreak 43 = .ok (.invokevirtual 93, 3) := by decide +kernel
theorem dX0_wouldBreak_46 : decode cX0_wouldBreak 46 = .ok (.iload_n 2, 1) := by decide +kernel
theorem dX0_wouldBreak_47 : decode cX0_wouldBreak 47 = .ok (.invokestatic 164, 3) := by decide +kernel
theorem dX0_wouldBreak_50 : decode cX0_wouldBreak 50 = .ok (.iload 4, 2) := by decide +kernel
theorem dX0_wouldBreak_52 : decode cX0_wouldBreak 52 = .ok (.iadd, 1) := by decide +kernel
theorem dX0_wouldBreak_53 : decode cX0_wouldBreak 53 = .ok (.istore 5, 2) := by decide +kernel
theorem dX0_wouldBreak_55 : decode cX0_wouldBreak 55 = .ok (.iconst 0, 1) := by decide +kernel
theorem dX0_wouldBreak_56 : decode cX0_wouldBreak 56 = .ok (.iload 5, 2) := by decide +kernel
theorem dX0_wouldBreak_58 : decode cX0_wouldBreak 58 = .ok (.aload_n 0, 1) := by decide +kernel
theorem dX0_wouldBreak_59 : decode cX0_wouldBreak 59 = .ok (.iload_n 3, 1) := by decide +kernel
theorem dX0_wouldBreak_60 : decode cX0_wouldBreak 60 = .ok (.invokevirtual 89, 3) := by decide +kernel
theorem dX0_wouldBreak_63 : decode cX0_wouldBreak 63 = .ok (.iload_n 1, 1) := by decide +kernel
theorem dX0_wouldBreak_64 : decode cX0_wouldBreak 64 = .ok (.if_icmp .ne 7, 3) := by decide +kernel
theorem dX0_wouldBreak_67 : decode cX0_wouldBreak 67 = .ok (.iconst 1, 1) := by decide +kernel
theorem dX0_wouldBreak_68 : decode cX0_wouldBreak 68 = .ok (.goto 4, 3) := by decide +kernel
theorem dX0_wouldBreak_71 : decode cX0_wouldBreak 71 = .ok (.iconst 0, 1) := by decide +kernel
theorem dX0_wouldBreak_72 : decode cX0_wouldBreak 72 = .ok (.invokestatic 167, 3) := by decide +kernel
theorem dX0_wouldBreak_75 : decode cX0_wouldBreak 75 = .ok (.iconst 2, 1) := by decide +kernel
theorem dX0_wouldBreak_76 : decode cX0_wouldBreak 76 = .ok (.if_icmp .ne 7, 3) := by decide +kernel
theorem dX0_wouldBreak_79 : decode cX0_wouldBreak 79 = .ok (.iconst 1, 1) := by decide +kernel
theorem dX0_wouldBreak_80 : decode cX0_wouldBreak 80 = .ok (.goto 4, 3) := by decide +kernel
theorem dX0_wouldBreak_83 : decode cX0_wouldBreak 83 = .ok (.iconst 0, 1) := by decide +kernel
theorem dX0_wouldBreak_84 : decode cX0_wouldBreak 84 = .ok (.ireturn, 1) := by decide +kernel
set_option maxRecDepth 20000 in
theorem ggX0_meanStrain_X0_gapCount : GoodIn wsX0_meanStrain wsX0_gapCount := goodIn_r _ [5, 6, 34, 35, 36, 37, 38, 39, 40, 41, 42, 43] (by decide +kernel) (by decide +kernel)
set_option maxRecDepth 20000 in
theorem gX0_meanStrain_X0_gapCount : GoodIn wsX0_meanStrain (wsV RX0 157 RX0 yX0_gapCount wsX0_gapCount) := goodIn_app (goodIn_of _ (by decide +kernel)) ggX0_meanStrain_X0_gapCount
set_option maxRecDepth 20000 in
theorem ggX0_meanStrain_X0_strainOfGap : GoodIn wsX0_meanStrain wsX0_strainOfGap := goodIn_r _ [10, 11, 12, 13, 4, 14, 15, 16, 17, 18, 19, 20, 21, 22, 23, 24, 25, 26, 27, 28, 29, 30, 31, 32, 33, 34, 35, 36, 37, 38, 39, 40, 41, 42, 43] (by decide +kernel) (by decide +kernel)
set_option maxRecDepth 20000 in
theorem gX0_meanStrain_X0_strainOfGap : GoodIn wsX0_meanStrain (wsV RX0 128 RX0 yX0_strainOfGap wsX0_strainOfGap) := goodIn_app (goodIn_of _ (by decide +kernel)) ggX0_meanStrain_X0_strainOfGap
theorem dX0_meanStrain_0 : decode cX0_meanStrain 0 = .ok (.aload_n 0, 1) := by decide +kernel
theorem dX0_meanStrain_1 : decode cX0_meanStrain 1 = .ok (.invokevirtual 157, 3) := by decide +kernel
theorem dX0_meanStrain_4 : decode cX0_meanStrain 4 = .ok (.istore_n 1, 1) := by decide +kernel
theorem dX0_meanStrain_5 : decode cX0_meanStrain 5 = .ok (.iload_n 1, 1) := by decide +kernel
theorem dX0_meanStrain_6 : decode cX0_meanStrain 6 = .ok (.ifCond .ne 5, 3) := by decide +kernel
theorem dX0_meanStrain_9 : decode cX0_meanStrain 9 = .ok (.dconst 0, 1) := by decide +kernel
theorem dX0_meanStrain_10 : decode cX0_meanStrain 10 = .ok (.dreturn, 1) := by decide +kernel
theorem dX0_meanStrain_11 : decode cX0_meanStrain 11 = .ok (.iconst 0, 1) := by decide +kernel
theorem dX0_meanStrain_12 : decode cX0_meanStrain 12 = .ok (.istore_n 2, 1) := by decide +kernel
theorem dX0_meanStrain_13 : decode cX0_meanStrain 13 = .ok (.iconst 0, 1) := by decide +kernel
theorem dX0_meanStrain_14 : decode cX0_meanStrain 14 = .ok (.istore_n 3, 1) := by decide +kernel
theorem dX0_meanStrain_15 : decode cX0_meanStrain 15 = .ok (.iload_n 3, 1) := by decide +kernel
theorem dX0_meanStrain_16 : decode cX0_meanStrain 16 = .ok (.iload_n 1, 1) := by decide +kernel
theorem dX0_meanStrain_17 : decode cX0_meanStrain 17 = .ok (.if_icmp .ge 17, 3) := by decide +kernel
theorem dX0_meanStrain_20 : decode cX0_meanStrain 20 = .ok (.iload_n 2, 1) := by decide +kernel
theorem dX0_meanStrain_21 : decode cX0_meanStrain 21 = .ok (.aload_n 0, 1) := by decide +kernel
theorem dX0_meanStrain_22 : decode cX0_meanStrain 22 = .ok (.iload_n 3, 1) := by decide +kernel
theorem dX0_meanStrain_23 : decode cX0_meanStrain 23 = .ok (.invokevirtual 128, 3) := by decide +kernel
theorem dX0_meanStrain_26 : decode cX0_meanStrain 26 = .ok (.iadd, 1) := by decide +kernel
theorem dX0_meanStrain_27 : decode cX0_meanStrain 27 = .ok (.istore_n 2, 1) := by decide +kernel
theorem dX0_meanStrain_28 : decode cX0_meanStrain 28 = .ok (.iinc 3 1, 3) := by decide +kernel
theorem dX0_meanStrain_31 : decode cX0_meanStrain 31 = .ok (.goto (-16), 3) := by decide +kernel
theorem dX0_meanStrain_34 : decode cX0_meanStrain 34 = .ok (.iload_n 2, 1) := by decide +kernel
theorem dX0_meanStrain_35 : decode cX0_meanStrain 35 = .ok (.i2d, 1) := by decide +kernel
theorem dX0_meanStrain_36 : decode cX0_meanStrain 36 = .ok (.iload_n 1, 1) := by decide +kernel
theorem dX0_meanStrain_37 : decode cX0_meanStrain 37 = .ok (.i2d, 1) := by decide +kernel
theorem dX0_meanStrain_38 : decode cX0_meanStrain 38 = .ok (.ddiv, 1) := by decide +kernel
theorem dX0_meanStrain_39 : decode cX0_meanStrain 39 = .ok (.dreturn, 1) := by decide +kernel
set_option maxRecDepth 20000 in
theorem ggX0_digest_X0_mixed : GoodIn wsX0_digest wsX0_mixed := goodIn_r _ [10, 11] (by decide +kernel) (by decide +kernel)
set_option maxRecDepth 20000 in
theorem gX0_digest_X0_mixed : GoodIn wsX0_digest (va_wsS RX0 173 yX0_mixed wsX0_mixed) := goodIn_app (goodIn_of _ (by decide +kernel)) ggX0_digest_X0_mixed
set_option maxRecDepth 20000 in
theorem ggX0_digest_X0_gapsOfKind : GoodIn wsX0_digest wsX0_gapsOfKind := goodIn_r _ [15, 16, 17, 18, 9, 19, 3, 20, 21, 22, 23, 24, 25, 26, 27, 28, 29, 30, 31, 32, 33, 34, 35, 36, 37, 38, 39, 40, 41, 42, 43, 44, 45, 46, 47, 48, 49, 50, 51, 52, 53, 54, 55, 56, 57, 58, 59, 60, 61, 62, 63, 64, 65, 66, 67, 68, 69, 70, 126, 127, 128, 129, 130, 131, 132, 133, 134, 135] (by decide +kernel) (by decide +kernel)
set_option maxRecDepth 20000 in
theorem gX0_digest_X0_gapsOfKind : GoodIn wsX0_digest (wsV RX0 137 RX0 yX0_gapsOfKind wsX0_gapsOfKind) := goodIn_app (goodIn_of _ (by decide +kernel)) ggX0_digest_X0_gapsOfKind
set_option maxRecDepth 20000 in
theorem ggX0_digest_X0_longestThread : GoodIn wsX0_digest wsX0_longestThread := goodIn_r _ [74, 6, 75, 76, 77, 9, 78, 3, 79, 80, 81, 82, 83, 30, 31, 32, 126, 127, 128, 129, 130, 131, 132, 133, 134, 135] (by decide +kernel) (by decide +kernel)
set_option maxRecDepth 20000 in
theorem gX0_digest_X0_longestThread : GoodIn wsX0_digest (wsV RX0 177 RX0 yX0_longestThread wsX0_longestThread) := goodIn_app (goodIn_of _ (by decide +kernel)) ggX0_digest_X0_longestThread
set_option maxRecDepth 20000 in
theorem ggX0_digest_X0_costOfAll : GoodIn wsX0_digest wsX0_costOfAll := goodIn_r _ [87, 16, 17, 18, 9, 19, 3, 88, 89, 90, 91, 49, 50, 47, 51, 20, 21, 22, 23, 24, 25, 26, 27, 28, 29, 30, 31, 32, 33, 34, 35, 36, 37, 38, 39, 40, 41, 42, 43, 44, 45, 46, 48, 52, 53, 54, 55, 56, 57, 58, 59, 60, 61, 62, 63, 64, 65, 66, 67, 68, 69, 70, 126, 127, 128, 129, 130, 131, 132, 133, 134, 135] (by decide +kernel) (by decide +kernel)
set_option maxRecDepth 20000 in
theorem gX0_digest_X0_costOfAll : GoodIn wsX0_digest (wsV RX0 180 RX0 yX0_costOfAll wsX0_costOfAll) := goodIn_app (goodIn_of _ (by decide +kernel)) ggX0_digest_X0_costOfAll
set_option maxRecDepth 20000 in
theorem ggX0_digest_X0_bestSplice : GoodIn wsX0_digest wsX0_bestSplice := goodIn_r _ [95, 16, 17, 18, 9, 19, 3, 24, 25, 26, 27, 28, 29, 30, 31, 32, 96, 97, 98, 99, 20, 21, 22, 23, 33, 34, 35, 36, 37, 38, 39, 40, 41, 42, 43, 44, 45, 46, 47, 48, 49, 50, 51, 52, 53, 54, 55, 56, 57, 58, 59, 60, 61, 62, 63, 64, 65, 66, 67, 68, 69, 70, 100, 101, 102, 103, 104, 105, 106, 126, 127, 128, 129, 130, 131, 132, 133, 134, 135] (by decide +kernel) (by decide +kernel)
set_option maxRecDepth 20000 in
theorem gX0_digest_X0_bestSplice : GoodIn wsX0_digest (wsV RX0 183 RX0 yX0_bestSplice wsX0_bestSplice) := goodIn_app (goodIn_of _ (by decide +kernel)) ggX0_digest_X0_bestSplice
set_option maxRecDepth 20000 in
theorem ggX0_digest_X0_mixedWithRemarks : GoodIn wsX0_digest wsX0_mixedWithRemarks := goodIn_r _ [110, 2, 64, 111, 112, 113, 9, 114, 41, 30, 31, 32, 115, 116, 117, 7, 8, 10, 11, 126, 127, 128, 129, 130, 131, 132, 133, 134, 135] (by decide +kernel) (by decide +kernel)
set_option maxRecDepth 20000 in
theorem gX0_digest_X0_mixedWithRemarks : GoodIn wsX0_digest (wsV RX0 186 RX0 yX0_mixedWithRemarks wsX0_mixedWithRemarks) := goodIn_app (goodIn_of _ (by decide +kernel)) ggX0_digest_X0_mixedWithRemarks
set_option maxRecDepth 20000 in
theorem ggX0_digest_X0_mixedWithWords : GoodIn wsX0_digest wsX0_mixedWithWords := goodIn_r _ [121, 3, 29, 30, 31, 9, 32, 7, 8, 10, 11, 37, 38, 39, 40, 41, 79, 80, 81, 82, 83, 126, 127, 128, 129, 130, 131, 132, 133, 134, 135] (by decide +kernel) (by decide +kernel)
set_option maxRecDepth 20000 in
theorem gX0_digest_X0_mixedWithWords : GoodIn wsX0_digest (wsV RX0 190 RX0 yX0_mixedWithWords wsX0_mixedWithWords) := goodIn_app (goodIn_of _ (by decide +kernel)) ggX0_digest_X0_mixedWithWords
set_option maxRecDepth 20000 in
theorem ggX0_digest_X0_mixedWithGaps : GoodIn wsX0_digest wsX0_mixedWithGaps := goodIn_r _ [125, 16, 17, 18, 9, 19, 3, 52, 53, 54, 55, 29, 30, 31, 32, 7, 8, 10, 11, 33, 34, 35, 36, 37, 38, 39, 40, 41, 42, 43, 44, 45, 46, 47, 48, 49, 50, 51, 24, 25, 26, 27, 28, 115, 116, 117, 20, 21, 22, 23, 56, 57, 58, 59, 60, 61, 62, 63, 64, 65, 66, 67, 68, 69, 70, 88, 89, 90, 91, 126, 127, 128, 129, 130, 131, 132, 133, 134, 135] (by decide +kernel) (by decide +kernel)
set_option maxRecDepth 20000 in
theorem gX0_digest_X0_mixedWithGaps : GoodIn wsX0_digest (wsV RX0 193 RX0 yX0_mixedWithGaps wsX0_mixedWithGaps) := goodIn_app (goodIn_of _ (by decide +kernel)) ggX0_digest_X0_mixedWithGaps
theorem dX0_digest_0 : decode cX0_digest 0 = .ok (.ldc2_w 171, 3) := by decide +kernel
theorem dX0_digest_3 : decode cX0_digest 3 = .ok (.lstore_n 1, 1) := by decide +kernel
theorem dX0_digest_4 : decode cX0_digest 4 = .ok (.lload_n 1, 1) := by decide +kernel
theorem dX0_digest_5 : decode cX0_digest 5 = .ok (.aload_n 0, 1) := by decide +kernel
theorem dX0_digest_6 : decode cX0_digest 6 = .ok (.getfield 69, 3) := by decide +kernel
theorem dX0_digest_9 : decode cX0_digest 9 = .ok (.invokestatic 173, 3) := by decide +kernel
theorem dX0_digest_12 : decode cX0_digest 12 = .ok (.lstore_n 1, 1) := by decide +kernel
theorem dX0_digest_13 : decode cX0_digest 13 = .ok (.lload_n 1, 1) := by decide +kernel
theorem dX0_digest_14 : decode cX0_digest 14 = .ok (.aload_n 0, 1) := by decide +kernel
theorem dX0_digest_15 : decode cX0_digest 15 = .ok (.getfield 116, 3) := by decide +kernel
theorem dX0_digest_18 : decode cX0_digest 18 = .ok (.invokestatic 173, 3) := by decide +kernel
theorem dX0_digest_21 : decode cX0_digest 21 = .ok (.lstore_n 1, 1) := by decide +kernel
theorem dX0_digest_22 : decode cX0_digest 22 = .ok (.lload_n 1, 1) := by decide +kernel
theorem dX0_digest_23 : decode cX0_digest 23 = .ok (.aload_n 0, 1) := by decide +kernel
theorem dX0_digest_24 : decode cX0_digest 24 = .ok (.getfield 25, 3) := by decide +kernel
theorem dX0_digest_27 : decode cX0_digest 27 = .ok (.invokestatic 173, 3) := by decide +kernel
theorem dX0_digest_30 : decode cX0_digest 30 = .ok (.lstore_n 1, 1) := by decide +kernel
theorem dX0_digest_31 : decode cX0_digest 31 = .ok (.lload_n 1, 1) := by decide +kernel
theorem dX0_digest_32 : decode cX0_digest 32 = .ok (.aload_n 0, 1) := by decide +kernel
theorem dX0_digest_33 : decode cX0_digest 33 = .ok (.getfield 119, 3) := by decide +kernel
theorem dX0_digest_36 : decode cX0_digest 36 = .ok (.invokestatic 173, 3) := by decide +kernel
theorem dX0_digest_39 : decode cX0_digest 39 = .ok (.lstore_n 1, 1) := by decide +kernel
theorem dX0_digest_40 : decode cX0_digest 40 = .ok (.lload_n 1, 1) := by decide +kernel
theorem dX0_digest_41 : decode cX0_digest 41 = .ok (.aload_n 0, 1) := by decide +kernel
theorem dX0_digest_42 : decode cX0_digest 42 = .ok (.iconst 2, 1) := by decide +kernel
theorem dX0_digest_43 : decode cX0_digest 43 = .ok (.invokevirtual 137, 3) := by decide +kernel
theorem dX0_digest_46 : decode cX0_digest 46 = .ok (.invokestatic 173, 3) := by decide +kernel
theorem dX0_digest_49 : decode cX0_digest 49 = .ok (.lstore_n 1, 1) := by decide +kernel
theorem dX0_digest_50 : decode cX0_digest 50 = .ok (.lload_n 1, 1) := by decide +kernel
theorem dX0_digest_51 : decode cX0_digest 51 = .ok (.aload_n 0, 1) := by decide +kernel
theorem dX0_digest_52 : decode cX0_digest 52 = .ok (.iconst 1, 1) := by decide +kernel
theorem dX0_digest_53 : decode cX0_digest 53 = .ok (.invokevirtual 137, 3) := by decide +kernel
theorem dX0_digest_56 : decode cX0_digest 56 = .ok (.invokestatic 173, 3) := by decide +kernel
theorem dX0_digest_59 : decode cX0_digest 59 = .ok (.lstore_n 1, 1) := by decide +kernel
theorem dX0_digest_60 : decode cX0_digest 60 = .ok (.lload_n 1, 1) := by decide +kernel
theorem dX0_digest_61 : decode cX0_digest 61 = .ok (.aload_n 0, 1) := by decide +kernel
theorem dX0_digest_62 : decode cX0_digest 62 = .ok (.getfield 86, 3) := by decide +kernel
theorem dX0_digest_65 : decode cX0_digest 65 = .ok (.invokestatic 173, 3) := by decide +kernel
theorem dX0_digest_68 : decode cX0_digest 68 = .ok (.lstore_n 1, 1) := by decide +kernel
theorem dX0_digest_69 : decode cX0_digest 69 = .ok (.lload_n 1, 1) := by decide +kernel
theorem dX0_digest_70 : decode cX0_digest 70 = .ok (.aload_n 0, 1) := by decide +kernel
theorem dX0_digest_71 : decode cX0_digest 71 = .ok (.invokevirtual 177, 3) := by decide +kernel
theorem dX0_digest_74 : decode cX0_digest 74 = .ok (.invokestatic 173, 3) := by decide +kernel
theorem dX0_digest_77 : decode cX0_digest 77 = .ok (.lstore_n 1, 1) := by decide +kernel
theorem dX0_digest_78 : decode cX0_digest 78 = .ok (.lload_n 1, 1) := by decide +kernel
theorem dX0_digest_79 : decode cX0_digest 79 = .ok (.aload_n 0, 1) := by decide +kernel
theorem dX0_digest_80 : decode cX0_digest 80 = .ok (.invokevirtual 180, 3) := by decide +kernel
theorem dX0_digest_83 : decode cX0_digest 83 = .ok (.invokestatic 173, 3) := by decide +kernel
theorem dX0_digest_86 : decode cX0_digest 86 = .ok (.lstore_n 1, 1) := by decide +kernel
theorem dX0_digest_87 : decode cX0_digest 87 = .ok (.lload_n 1, 1) := by decide +kernel
theorem dX0_digest_88 : decode cX0_digest 88 = .ok (.aload_n 0, 1) := by decide +kernel
theorem dX0_digest_89 : decode cX0_digest 89 = .ok (.invokevirtual 183, 3) := by decide +kernel
theorem dX0_digest_92 : decode cX0_digest 92 = .ok (.invokestatic 173, 3) := by decide +kernel
theorem dX0_digest_95 : decode cX0_digest 95 = .ok (.lstore_n 1, 1) := by decide +kernel
theorem dX0_digest_96 : decode cX0_digest 96 = .ok (.aload_n 0, 1) := by decide +kernel
theorem dX0_digest_97 : decode cX0_digest 97 = .ok (.lload_n 1, 1) := by decide +kernel
theorem dX0_digest_98 : decode cX0_digest 98 = .ok (.invokevirtual 186, 3) := by decide +kernel
theorem dX0_digest_101 : decode cX0_digest 101 = .ok (.lstore_n 1, 1) := by decide +kernel
theorem dX0_digest_102 : decode cX0_digest 102 = .ok (.aload_n 0, 1) := by decide +kernel
theorem dX0_digest_103 : decode cX0_digest 103 = .ok (.lload_n 1, 1) := by decide +kernel
theorem dX0_digest_104 : decode cX0_digest 104 = .ok (.invokevirtual 190, 3) := by decide +kernel
theorem dX0_digest_107 : decode cX0_digest 107 = .ok (.lstore_n 1, 1) := by decide +kernel
theorem dX0_digest_108 : decode cX0_digest 108 = .ok (.aload_n 0, 1) := by decide +kernel
theorem dX0_digest_109 : decode cX0_digest 109 = .ok (.lload_n 1, 1) := by decide +kernel
theorem dX0_digest_110 : decode cX0_digest 110 = .ok (.invokevirtual 193, 3) := by decide +kernel
theorem dX0_digest_113 : decode cX0_digest 113 = .ok (.lreturn, 1) := by decide +kernel
theorem dX0_requireSpeaker_0 : decode cX0_requireSpeaker 0 = .ok (.iload_n 0, 1) := by decide +kernel
theorem dX0_requireSpeaker_1 : decode cX0_requireSpeaker 1 = .ok (.ifCond .lt 9, 3) := by decide +kernel
theorem dX0_requireSpeaker_4 : decode cX0_requireSpeaker 4 = .ok (.iload_n 0, 1) := by decide +kernel
theorem dX0_requireSpeaker_5 : decode cX0_requireSpeaker 5 = .ok (.bipush 6, 2) := by decide +kernel
theorem dX0_requireSpeaker_7 : decode cX0_requireSpeaker 7 = .ok (.if_icmp .lt 13, 3) := by decide +kernel
theorem dX0_requireSpeaker_10 : decode cX0_requireSpeaker 10 = .ok (.new 196, 3) := by decide +kernel
theorem dX0_requireSpeaker_13 : decode cX0_requireSpeaker 13 = .ok (.dup, 1) := by decide +kernel
theorem dX0_requireSpeaker_14 : decode cX0_requireSpeaker 14 = .ok (.ldc 198, 2) := by decide +kernel
theorem dX0_requireSpeaker_16 : decode cX0_requireSpeaker 16 = .ok (.invokespecial 200, 3) := by decide +kernel
theorem dX0_requireSpeaker_19 : decode cX0_requireSpeaker 19 = .ok (.athrow, 1) := by decide +kernel
theorem dX0_requireSpeaker_20 : decode cX0_requireSpeaker 20 = .ok (.return_, 1) := by decide +kernel
theorem dX0_requireTopic_0 : decode cX0_requireTopic 0 = .ok (.iload_n 0, 1) := by decide +kernel
theorem dX0_requireTopic_1 : decode cX0_requireTopic 1 = .ok (.ifCond .lt 9, 3) := by decide +kernel
theorem dX0_requireTopic_4 : decode cX0_requireTopic 4 = .ok (.iload_n 0, 1) := by decide +kernel
theorem dX0_requireTopic_5 : decode cX0_requireTopic 5 = .ok (.bipush 10, 2) := by decide +kernel
theorem dX0_requireTopic_7 : decode cX0_requireTopic 7 = .ok (.if_icmp .lt 13, 3) := by decide +kernel
theorem dX0_requireTopic_10 : decode cX0_requireTopic 10 = .ok (.new 106, 3) := by decide +kernel
theorem dX0_requireTopic_13 : decode cX0_requireTopic 13 = .ok (.dup, 1) := by decide +kernel
theorem dX0_requireTopic_14 : decode cX0_requireTopic 14 = .ok (.ldc 201, 2) := by decide +kernel
theorem dX0_requireTopic_16 : decode cX0_requireTopic 16 = .ok (.invokespecial 110, 3) := by decide +kernel
theorem dX0_requireTopic_19 : decode cX0_requireTopic 19 = .ok (.athrow, 1) := by decide +kernel
theorem dX0_requireTopic_20 : decode cX0_requireTopic 20 = .ok (.return_, 1) := by decide +kernel
theorem dX0_requireRoom_0 : decode cX0_requireRoom 0 = .ok (.aload_n 0, 1) := by decide +kernel
theorem dX0_requireRoom_1 : decode cX0_requireRoom 1 = .ok (.getfield 69, 3) := by decide +kernel
theorem dX0_requireRoom_4 : decode cX0_requireRoom 4 = .ok (.bipush 24, 2) := by decide +kernel
theorem dX0_requireRoom_6 : decode cX0_requireRoom 6 = .ok (.if_icmp .lt 13, 3) := by decide +kernel
theorem dX0_requireRoom_9 : decode cX0_requireRoom 9 = .ok (.new 50, 3) := by decide +kernel
theorem dX0_requireRoom_12 : decode cX0_requireRoom 12 = .ok (.dup, 1) := by decide +kernel
theorem dX0_requireRoom_13 : decode cX0_requireRoom 13 = .ok (.ldc 203, 2) := by decide +kernel
theorem dX0_requireRoom_15 : decode cX0_requireRoom 15 = .ok (.invokespecial 54, 3) := by decide +kernel
theorem dX0_requireRoom_18 : decode cX0_requireRoom 18 = .ok (.athrow, 1) := by decide +kernel
theorem dX0_requireRoom_19 : decode cX0_requireRoom 19 = .ok (.return_, 1) := by decide +kernel
theorem dX0_requirePatience_0 : decode cX0_requirePatience 0 = .ok (.iload_n 1, 1) := by decide +kernel
theorem dX0_requirePatience_1 : decode cX0_requirePatience 1 = .ok (.aload_n 0, 1) := by decide +kernel
theorem dX0_requirePatience_2 : decode cX0_requirePatience 2 = .ok (.getfield 25, 3) := by decide +kernel
theorem dX0_requirePatience_5 : decode cX0_requirePatience 5 = .ok (.if_icmp .le 13, 3) := by decide +kernel
theorem dX0_requirePatience_8 : decode cX0_requirePatience 8 = .ok (.new 50, 3) := by decide +kernel
theorem dX0_requirePatience_11 : decode cX0_requirePatience 11 = .ok (.dup, 1) := by decide +kernel
theorem dX0_requirePatience_12 : decode cX0_requirePatience 12 = .ok (.ldc 205, 2) := by decide +kernel
theorem dX0_requirePatience_14 : decode cX0_requirePatience 14 = .ok (.invokespecial 54, 3) := by decide +kernel
theorem dX0_requirePatience_17 : decode cX0_requirePatience 17 = .ok (.athrow, 1) := by decide +kernel
theorem dX0_requirePatience_18 : decode cX0_requirePatience 18 = .ok (.return_, 1) := by decide +kernel
theorem dX0_requirePlace_0 : decode cX0_requirePlace 0 = .ok (.iload_n 1, 1) := by decide +kernel
theorem dX0_requirePlace_1 : decode cX0_requirePlace 1 = .ok (.ifCond .lt 11, 3) := by decide +kernel
theorem dX0_requirePlace_4 : decode cX0_requirePlace 4 = .ok (.iload_n 1, 1) := by decide +kernel
theorem dX0_requirePlace_5 : decode cX0_requirePlace 5 = .ok (.aload_n 0, 1) := by decide +kernel
theorem dX0_requirePlace_6 : decode cX0_requirePlace 6 = .ok (.getfield 69, 3) := by decide +kernel
theorem dX0_requirePlace_9 : decode cX0_requirePlace 9 = .ok (.if_icmp .lt 13, 3) := by decide +kernel
theorem dX0_requirePlace_12 : decode cX0_requirePlace 12 = .ok (.new 196, 3) := by decide +kernel
theorem dX0_requirePlace_15 : decode cX0_requirePlace 15 = .ok (.dup, 1) := by decide +kernel
theorem dX0_requirePlace_16 : decode cX0_requirePlace 16 = .ok (.ldc 207, 2) := by decide +kernel
theorem dX0_requirePlace_18 : decode cX0_requirePlace 18 = .ok (.invokespecial 200, 3) := by decide +kernel
theorem dX0_requirePlace_21 : decode cX0_requirePlace 21 = .ok (.athrow, 1) := by decide +kernel
theorem dX0_requirePlace_22 : decode cX0_requirePlace 22 = .ok (.return_, 1) := by decide +kernel
theorem dX0_requireWord_0 : decode cX0_requireWord 0 = .ok (.iload_n 1, 1) := by decide +kernel
theorem dX0_requireWord_1 : decode cX0_requireWord 1 = .ok (.ifCond .lt 11, 3) := by decide +kernel
theorem dX0_requireWord_4 : decode cX0_requireWord 4 = .ok (.iload_n 1, 1) := by decide +kernel
theorem dX0_requireWord_5 : decode cX0_requireWord 5 = .ok (.aload_n 0, 1) := by decide +kernel
theorem dX0_requireWord_6 : decode cX0_requireWord 6 = .ok (.getfield 116, 3) := by decide +kernel
theorem dX0_requireWord_9 : decode cX0_requireWord 9 = .ok (.if_icmp .lt 13, 3) := by decide +kernel
theorem dX0_requireWord_12 : decode cX0_requireWord 12 = .ok (.new 196, 3) := by decide +kernel
theorem dX0_requireWord_15 : decode cX0_requireWord 15 = .ok (.dup, 1) := by decide +kernel
theorem dX0_requireWord_16 : decode cX0_requireWord 16 = .ok (.ldc 209, 2) := by decide +kernel
theorem dX0_requireWord_18 : decode cX0_requireWord 18 = .ok (.invokespecial 200, 3) := by decide +kernel
theorem dX0_requireWord_21 : decode cX0_requireWord 21 = .ok (.athrow, 1) := by decide +kernel
theorem dX0_requireWord_22 : decode cX0_requireWord 22 = .ok (.return_, 1) := by decide +kernel
set_option maxRecDepth 20000 in
theorem ggX0_requireGap_X0_gapCount : GoodIn wsX0_requireGap wsX0_gapCount := goodIn_r _ [7, 8, 9, 10, 11, 12, 13, 14, 15, 16, 17, 18] (by decide +kernel) (by decide +kernel)
set_option maxRecDepth 20000 in
theorem gX0_requireGap_X0_gapCount : GoodIn wsX0_requireGap (wsV RX0 157 RX0 yX0_gapCount wsX0_gapCount) := goodIn_app (goodIn_of _ (by decide +kernel)) ggX0_requireGap_X0_gapCount
theorem dX0_requireGap_0 : decode cX0_requireGap 0 = .ok (.iload_n 1, 1) := by decide +kernel
theorem dX0_requireGap_1 : decode cX0_requireGap 1 = .ok (.ifCond .lt 11, 3) := by decide +kernel
theorem dX0_requireGap_4 : decode cX0_requireGap 4 = .ok (.iload_n 1, 1) := by decide +kernel
theorem dX0_requireGap_5 : decode cX0_requireGap 5 = .ok (.aload_n 0, 1) := by decide +kernel
theorem dX0_requireGap_6 : decode cX0_requireGap 6 = .ok (.invokevirtual 157, 3) := by decide +kernel
theorem dX0_requireGap_9 : decode cX0_requireGap 9 = .ok (.if_icmp .lt 13, 3) := by decide +kernel
theorem dX0_requireGap_12 : decode cX0_requireGap 12 = .ok (.new 196, 3) := by decide +kernel
theorem dX0_requireGap_15 : decode cX0_requireGap 15 = .ok (.dup, 1) := by decide +kernel
theorem dX0_requireGap_16 : decode cX0_requireGap 16 = .ok (.ldc 211, 2) := by decide +kernel
theorem dX0_requireGap_18 : decode cX0_requireGap 18 = .ok (.invokespecial 200, 3) := by decide +kernel
theorem dX0_requireGap_21 : decode cX0_requireGap 21 = .ok (.athrow, 1) := by decide +kernel
theorem dX0_requireGap_22 : decode cX0_requireGap 22 = .ok (.return_, 1) := by decide +kernel
set_option maxRecDepth 20000 in
theorem ggX0_requireUntied_X0_gapTied : GoodIn wsX0_requireUntied wsX0_gapTied := goodIn_r _ [7, 8, 9, 10, 11, 6, 12, 13, 14, 15, 16, 17, 18, 19, 20, 21, 22] (by decide +kernel) (by decide +kernel)
set_option maxRecDepth 20000 in
theorem gX0_requireUntied_X0_gapTied : GoodIn wsX0_requireUntied (wsV RX0 131 RX0 yX0_gapTied wsX0_gapTied) := goodIn_app (goodIn_of _ (by decide +kernel)) ggX0_requireUntied_X0_gapTied
theorem dX0_requireUntied_0 : decode cX0_requireUntied 0 = .ok (.aload_n 0, 1) := by decide +kernel
theorem dX0_requireUntied_1 : decode cX0_requireUntied 1 = .ok (.iload_n 1, 1) := by decide +kernel
theorem dX0_requireUntied_2 : decode cX0_requireUntied 2 = .ok (.invokevirtual 131, 3) := by decide +kernel
theorem dX0_requireUntied_5 : decode cX0_requireUntied 5 = .ok (.ifCond .eq 13, 3) := by decide +kernel
theorem dX0_requireUntied_8 : decode cX0_requireUntied 8 = .ok (.new 50, 3) := by decide +kernel
theorem dX0_requireUntied_11 : decode cX0_requireUntied 11 = .ok (.dup, 1) := by decide +kernel
theorem dX0_requireUntied_12 : decode cX0_requireUntied 12 = .ok (.ldc 213, 2) := by decide +kernel
theorem dX0_requireUntied_14 : decode cX0_requireUntied 14 = .ok (.invokespecial 54, 3) := by decide +kernel
theorem dX0_requireUntied_17 : decode cX0_requireUntied 17 = .ok (.athrow, 1) := by decide +kernel
theorem dX0_requireUntied_18 : decode cX0_requireUntied 18 = .ok (.return_, 1) := by decide +kernel
theorem dX0_requireThread_0 : decode cX0_requireThread 0 = .ok (.iload_n 1, 1) := by decide +kernel
theorem dX0_requireThread_1 : decode cX0_requireThread 1 = .ok (.ifCond .lt 11, 3) := by decide +kernel
theorem dX0_requireThread_4 : decode cX0_requireThread 4 = .ok (.iload_n 1, 1) := by decide +kernel
theorem dX0_requireThread_5 : decode cX0_requireThread 5 = .ok (.aload_n 0, 1) := by decide +kernel
theorem dX0_requireThread_6 : decode cX0_requireThread 6 = .ok (.getfield 86, 3) := by decide +kernel
theorem dX0_requireThread_9 : decode cX0_requireThread 9 = .ok (.if_icmp .lt 13, 3) := by decide +kernel
theorem dX0_requireThread_12 : decode cX0_requireThread 12 = .ok (.new 196, 3) := by decide +kernel
theorem dX0_requireThread_15 : decode cX0_requireThread 15 = .ok (.dup, 1) := by decide +kernel
theorem dX0_requireThread_16 : decode cX0_requireThread 16 = .ok (.ldc 215, 2) := by decide +kernel
theorem dX0_requireThread_18 : decode cX0_requireThread 18 = .ok (.invokespecial 200, 3) := by decide +kernel
theorem dX0_requireThread_21 : decode cX0_requireThread 21 = .ok (.athrow, 1) := by decide +kernel
theorem dX0_requireThread_22 : decode cX0_requireThread 22 = .ok (.return_, 1) := by decide +kernel
set_option maxRecDepth 20000 in
theorem ggX0_append_X0_put : GoodIn wsX0_append wsX0_put := goodIn_r _ [6, 7, 8, 9, 10, 11, 5, 12, 72, 73, 74, 75, 76, 77, 78, 79, 80, 81] (by decide +kernel) (by decide +kernel)
set_option maxRecDepth 20000 in
theorem gX0_append_X0_put : GoodIn wsX0_append (wsV RX0 102 RX0 yX0_put wsX0_put) := goodIn_app (goodIn_of _ (by decide +kernel)) ggX0_append_X0_put
set_option maxRecDepth 20000 in
theorem ggX0_append_X0_recount : GoodIn wsX0_append wsX0_recount := goodIn_r _ [16, 17, 1, 18, 19, 20, 21, 22, 23, 5, 24, 8, 25, 26, 27, 10, 11, 12, 28, 29, 30, 31, 32, 33, 34, 35, 9, 36, 37, 38, 39, 40, 41, 42, 43, 44, 45, 46, 47, 48, 49, 50, 51, 52, 53, 54, 55, 56, 57, 58, 59, 60, 61, 62, 63, 64, 65, 7, 66, 67, 68, 69, 70, 71, 72, 73, 74, 75, 76, 77, 78, 79, 80, 81] (by decide +kernel) (by decide +kernel)
set_option maxRecDepth 20000 in
theorem gX0_append_X0_recount : GoodIn wsX0_append (wsV RX0 66 RX0 yX0_recount wsX0_recount) := goodIn_app (goodIn_of _ (by decide +kernel)) ggX0_append_X0_recount
theorem dX0_append_0 : decode cX0_append 0 = .ok (.aload_n 0, 1) := by decide +kernel
theorem dX0_append_1 : decode cX0_append 1 = .ok (.getfield 69, 3) := by decide +kernel
theorem dX0_append_4 : decode cX0_append 4 = .ok (.istore_n 3, 1) := by decide +kernel
theorem dX0_append_5 : decode cX0_append 5 = .ok (.aload_n 0, 1) := by decide +kernel
theorem dX0_append_6 : decode cX0_append 6 = .ok (.dup, 1) := by decide +kernel
theorem dX0_append_7 : decode cX0_append 7 = .ok (.getfield 69, 3) := by decide +kernel
theorem dX0_append_10 : decode cX0_append 10 = .ok (.iconst 1, 1) := by decide +kernel
theorem dX0_append_11 : decode cX0_append 11 = .ok (.iadd, 1) := by decide +kernel
theorem dX0_append_12 : decode cX0_append 12 = .ok (.putfield 69, 3) := by decide +kernel
theorem dX0_append_15 : decode cX0_append 15 = .ok (.aload_n 0, 1) := by decide +kernel
theorem dX0_append_16 : decode cX0_append 16 = .ok (.iload_n 3, 1) := by decide +kernel
theorem dX0_append_17 : decode cX0_append 17 = .ok (.iload_n 1, 1) := by decide +kernel
theorem dX0_append_18 : decode cX0_append 18 = .ok (.iload_n 2, 1) := by decide +kernel
theorem dX0_append_19 : decode cX0_append 19 = .ok (.invokevirtual 102, 3) := by decide +kernel
theorem dX0_append_22 : decode cX0_append 22 = .ok (.aload_n 0, 1) := by decide +kernel
theorem dX0_append_23 : decode cX0_append 23 = .ok (.invokevirtual 66, 3) := by decide +kernel
theorem dX0_append_26 : decode cX0_append 26 = .ok (.iload_n 3, 1) := by decide +kernel
theorem dX0_append_27 : decode cX0_append 27 = .ok (.ireturn, 1) := by decide +kernel
set_option maxRecDepth 20000 in
theorem ggX0_put_X0_write : GoodIn wsX0_put wsX0_write := goodIn_r _ [7] (by decide +kernel) (by decide +kernel)
set_option maxRecDepth 20000 in
theorem gX0_put_X0_write : GoodIn wsX0_put (va_wsS RX0 82 yX0_write wsX0_write) := goodIn_app (goodIn_of _ (by decide +kernel)) ggX0_put_X0_write
theorem dX0_put_0 : decode cX0_put 0 = .ok (.aload_n 0, 1) := by decide +kernel
theorem dX0_put_1 : decode cX0_put 1 = .ok (.getfield 9, 3) := by decide +kernel
theorem dX0_put_4 : decode cX0_put 4 = .ok (.iload_n 1, 1) := by decide +kernel
theorem dX0_put_5 : decode cX0_put 5 = .ok (.iload_n 2, 1) := by decide +kernel
theorem dX0_put_6 : decode cX0_put 6 = .ok (.invokestatic 82, 3) := by decide +kernel
theorem dX0_put_9 : decode cX0_put 9 = .ok (.aload_n 0, 1) := by decide +kernel
theorem dX0_put_10 : decode cX0_put 10 = .ok (.getfield 13, 3) := by decide +kernel
theorem dX0_put_13 : decode cX0_put 13 = .ok (.iload_n 1, 1) := by decide +kernel
theorem dX0_put_14 : decode cX0_put 14 = .ok (.iload_n 3, 1) := by decide +kernel
theorem dX0_put_15 : decode cX0_put 15 = .ok (.invokestatic 82, 3) := by decide +kernel
theorem dX0_put_18 : decode cX0_put 18 = .ok (.aload_n 0, 1) := by decide +kernel
theorem dX0_put_19 : decode cX0_put 19 = .ok (.getfield 16, 3) := by decide +kernel
theorem dX0_put_22 : decode cX0_put 22 = .ok (.iload_n 1, 1) := by decide +kernel
theorem dX0_put_23 : decode cX0_put 23 = .ok (.iconst 0, 1) := by decide +kernel
theorem dX0_put_24 : decode cX0_put 24 = .ok (.invokestatic 82, 3) := by decide +kernel
theorem dX0_put_27 : decode cX0_put 27 = .ok (.return_, 1) := by decide +kernel
set_option maxRecDepth 20000 in
theorem ggX0_moveUpBehind_X0_copyRemark : GoodIn wsX0_moveUpBehind wsX0_copyRemark := goodIn_r _ [6, 7, 8, 9, 10, 11, 5, 12, 13, 14, 15, 16, 17, 18, 19, 20, 21, 22, 23, 24, 25] (by decide +kernel) (by decide +kernel)
set_option maxRecDepth 20000 in
theorem gX0_moveUpBehind_X0_copyRemark : GoodIn wsX0_moveUpBehind (wsV RX0 217 RX0 yX0_copyRemark wsX0_copyRemark) := goodIn_app (goodIn_of _ (by decide +kernel)) ggX0_moveUpBehind_X0_copyRemark
theorem dX0_moveUpBehind_0 : decode cX0_moveUpBehind 0 = .ok (.aload_n 0, 1) := by decide +kernel
theorem dX0_moveUpBehind_1 : decode cX0_moveUpBehind 1 = .ok (.dup, 1) := by decide +kernel
theorem dX0_moveUpBehind_2 : decode cX0_moveUpBehind 2 = .ok (.getfield 69, 3) := by decide +kernel
theorem dX0_moveUpBehind_5 : decode cX0_moveUpBehind 5 = .ok (.iconst 1, 1) := by decide +kernel
theorem dX0_moveUpBehind_6 : decode cX0_moveUpBehind 6 = .ok (.isub, 1) := by decide +kernel
theorem dX0_moveUpBehind_7 : decode cX0_moveUpBehind 7 = .ok (.putfield 69, 3) := by decide +kernel
theorem dX0_moveUpBehind_10 : decode cX0_moveUpBehind 10 = .ok (.iload_n 1, 1) := by decide +kernel
theorem dX0_moveUpBehind_11 : decode cX0_moveUpBehind 11 = .ok (.istore_n 2, 1) := by decide +kernel
theorem dX0_moveUpBehind_12 : decode cX0_moveUpBehind 12 = .ok (.iload_n 2, 1) := by decide +kernel
theorem dX0_moveUpBehind_13 : decode cX0_moveUpBehind 13 = .ok (.aload_n 0, 1) := by decide +kernel
theorem dX0_moveUpBehind_14 : decode cX0_moveUpBehind 14 = .ok (.getfield 69, 3) := by decide +kernel
theorem dX0_moveUpBehind_17 : decode cX0_moveUpBehind 17 = .ok (.if_icmp .ge 17, 3) := by decide +kernel
theorem dX0_moveUpBehind_20 : decode cX0_moveUpBehind 20 = .ok (.aload_n 0, 1) := by decide +kernel
theorem dX0_moveUpBehind_21 : decode cX0_moveUpBehind 21 = .ok (.iload_n 2, 1) := by decide +kernel
theorem dX0_moveUpBehind_22 : decode cX0_moveUpBehind 22 = .ok (.iconst 1, 1) := by decide +kernel
theorem dX0_moveUpBehind_23 : decode cX0_moveUpBehind 23 = .ok (.iadd, 1) := by decide +kernel
theorem dX0_moveUpBehind_24 : decode cX0_moveUpBehind 24 = .ok (.iload_n 2, 1) := by decide +kernel
theorem dX0_moveUpBehind_25 : decode cX0_moveUpBehind 25 = .ok (.invokevirtual 217, 3) := by decide +kernel
theorem dX0_moveUpBehind_28 : decode cX0_moveUpBehind 28 = .ok (.iinc 2 1, 3) := by decide +kernel
theorem dX0_moveUpBehind_31 : decode cX0_moveUpBehind 31 = .ok (.goto (-19), 3) := by decide +kernel
theorem dX0_moveUpBehind_34 : decode cX0_moveUpBehind 34 = .ok (.return_, 1) := by decide +kernel
set_option maxRecDepth 20000 in
theorem ggX0_makeRoomAt_X0_copyRemark : GoodIn wsX0_makeRoomAt wsX0_copyRemark := goodIn_r _ [6, 7, 8, 9, 10, 11, 5, 12, 13, 14, 15, 16, 17, 18, 19, 20, 21, 22, 23, 24, 25] (by decide +kernel) (by decide +kernel)
set_option maxRecDepth 20000 in
theorem gX0_makeRoomAt_X0_copyRemark : GoodIn wsX0_makeRoomAt (wsV RX0 217 RX0 yX0_copyRemark wsX0_copyRemark) := goodIn_app (goodIn_of _ (by decide +kernel)) ggX0_makeRoomAt_X0_copyRemark
theorem dX0_makeRoomAt_0 : decode cX0_makeRoomAt 0 = .ok (.aload_n 0, 1) := by decide +kernel
theorem dX0_makeRoomAt_1 : decode cX0_makeRoomAt 1 = .ok (.getfield 69, 3) := by decide +kernel
theorem dX0_makeRoomAt_4 : decode cX0_makeRoomAt 4 = .ok (.iconst 1, 1) := by decide +kernel
theorem dX0_makeRoomAt_5 : decode cX0_makeRoomAt 5 = .ok (.isub, 1) := by decide +kernel
theorem dX0_makeRoomAt_6 : decode cX0_makeRoomAt 6 = .ok (.istore_n 2, 1) := by decide +kernel
theorem dX0_makeRoomAt_7 : decode cX0_makeRoomAt 7 = .ok (.iload_n 2, 1) := by decide +kernel
theorem dX0_makeRoomAt_8 : decode cX0_makeRoomAt 8 = .ok (.iload_n 1, 1) := by decide +kernel
theorem dX0_makeRoomAt_9 : decode cX0_makeRoomAt 9 = .ok (.if_icmp .lt 17, 3) := by decide +kernel
theorem dX0_makeRoomAt_12 : decode cX0_makeRoomAt 12 = .ok (.aload_n 0, 1) := by decide +kernel
theorem dX0_makeRoomAt_13 : decode cX0_makeRoomAt 13 = .ok (.iload_n 2, 1) := by decide +kernel
theorem dX0_makeRoomAt_14 : decode cX0_makeRoomAt 14 = .ok (.iload_n 2, 1) := by decide +kernel
theorem dX0_makeRoomAt_15 : decode cX0_makeRoomAt 15 = .ok (.iconst 1, 1) := by decide +kernel
theorem dX0_makeRoomAt_16 : decode cX0_makeRoomAt 16 = .ok (.iadd, 1) := by decide +kernel
theorem dX0_makeRoomAt_17 : decode cX0_makeRoomAt 17 = .ok (.invokevirtual 217, 3) := by decide +kernel
theorem dX0_makeRoomAt_20 : decode cX0_makeRoomAt 20 = .ok (.iinc 2 (-1), 3) := by decide +kernel
theorem dX0_makeRoomAt_23 : decode cX0_makeRoomAt 23 = .ok (.goto (-16), 3) := by decide +kernel
theorem dX0_makeRoomAt_26 : decode cX0_makeRoomAt 26 = .ok (.aload_n 0, 1) := by decide +kernel
theorem dX0_makeRoomAt_27 : decode cX0_makeRoomAt 27 = .ok (.dup, 1) := by decide +kernel
theorem dX0_makeRoomAt_28 : decode cX0_makeRoomAt 28 = .ok (.getfield 69, 3) := by decide +kernel
theorem dX0_makeRoomAt_31 : decode cX0_makeRoomAt 31 = .ok (.iconst 1, 1) := by decide +kernel
theorem dX0_makeRoomAt_32 : decode cX0_makeRoomAt 32 = .ok (.iadd, 1) := by decide +kernel
theorem dX0_makeRoomAt_33 : decode cX0_makeRoomAt 33 = .ok (.putfield 69, 3) := by decide +kernel
theorem dX0_makeRoomAt_36 : decode cX0_makeRoomAt 36 = .ok (.return_, 1) := by decide +kernel
set_option maxRecDepth 20000 in
theorem ggX0_copyRemark_X0_read : GoodIn wsX0_copyRemark wsX0_read := goodIn_r _ [7] (by decide +kernel) (by decide +kernel)
set_option maxRecDepth 20000 in
theorem gX0_copyRemark_X0_read : GoodIn wsX0_copyRemark (va_wsS RX0 78 yX0_read wsX0_read) := goodIn_app (goodIn_of _ (by decide +kernel)) ggX0_copyRemark_X0_read
set_option maxRecDepth 20000 in
theorem ggX0_copyRemark_X0_write : GoodIn wsX0_copyRemark wsX0_write := goodIn_r _ [10] (by decide +kernel) (by decide +kernel)
set_option maxRecDepth 20000 in
theorem gX0_copyRemark_X0_write : GoodIn wsX0_copyRemark (va_wsS RX0 82 yX0_write wsX0_write) := goodIn_app (goodIn_of _ (by decide +kernel)) ggX0_copyRemark_X0_write
theorem dX0_copyRemark_0 : decode cX0_copyRemark 0 = .ok (.aload_n 0, 1) := by decide +kernel
theorem dX0_copyRemark_1 : decode cX0_copyRemark 1 = .ok (.getfield 9, 3) := by decide +kernel
theorem dX0_copyRemark_4 : decode cX0_copyRemark 4 = .ok (.iload_n 2, 1) := by decide +kernel
theorem dX0_copyRemark_5 : decode cX0_copyRemark 5 = .ok (.aload_n 0, 1) := by decide +kernel
theorem dX0_copyRemark_6 : decode cX0_copyRemark 6 = .ok (.getfield 9, 3) := by decide +kernel
theorem dX0_copyRemark_9 : decode cX0_copyRemark 9 = .ok (.iload_n 1, 1) := by decide +kernel
theorem dX0_copyRemark_10 : decode cX0_copyRemark 10 = .ok (.invokestatic 78, 3) := by decide +kernel
theorem dX0_copyRemark_13 : decode cX0_copyRemark 13 = .ok (.invokestatic 82, 3) := by decide +kernel
theorem dX0_copyRemark_16 : decode cX0_copyRemark 16 = .ok (.aload_n 0, 1) := by decide +kernel
theorem dX0_copyRemark_17 : decode cX0_copyRemark 17 = .ok (.getfield 13, 3) := by decide +kernel
