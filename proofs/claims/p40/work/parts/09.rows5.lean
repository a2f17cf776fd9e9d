theorem dL_build_4 : decode cL_build 4 = .ok (.invokespecial 71, 3) := by decide +kernel
theorem dL_build_7 : decode cL_build 7 = .ok (.astore_n 2, 1) := by decide +kernel
theorem dL_build_8 : decode cL_build 8 = .ok (.iconst 4, 1) := by decide +kernel
theorem dL_build_9 : decode cL_build 9 = .ok (.aload_n 1, 1) := by decide +kernel
theorem dL_build_10 : decode cL_build 10 = .ok (.iconst 0, 1) := by decide +kernel
theorem dL_build_11 : decode cL_build 11 = .ok (.invokestatic 72, 3) := by decide +kernel
theorem dL_build_14 : decode cL_build 14 = .ok (.bipush 26, 2) := by decide +kernel
theorem dL_build_16 : decode cL_build 16 = .ok (.invokestatic 19, 3) := by decide +kernel
theorem dL_build_19 : decode cL_build 19 = .ok (.iadd, 1) := by decide +kernel
theorem dL_build_20 : decode cL_build 20 = .ok (.istore_n 3, 1) := by decide +kernel
theorem dL_build_21 : decode cL_build 21 = .ok (.iconst 0, 1) := by decide +kernel
theorem dL_build_22 : decode cL_build 22 = .ok (.istore 4, 2) := by decide +kernel
theorem dL_build_24 : decode cL_build 24 = .ok (.iload 4, 2) := by decide +kernel
theorem dL_build_26 : decode cL_build 26 = .ok (.iload_n 3, 1) := by decide +kernel
theorem dL_build_27 : decode cL_build 27 = .ok (.if_icmp .ge 43, 3) := by decide +kernel
theorem dL_build_30 : decode cL_build 30 = .ok (.aload_n 0, 1) := by decide +kernel
theorem dL_build_31 : decode cL_build 31 = .ok (.aload_n 2, 1) := by decide +kernel
theorem dL_build_32 : decode cL_build 32 = .ok (.aload_n 1, 1) := by decide +kernel
theorem dL_build_33 : decode cL_build 33 = .ok (.iload 4, 2) := by decide +kernel
theorem dL_build_35 : decode cL_build 35 = .ok (.bipush 16, 2) := by decide +kernel
theorem dL_build_37 : decode cL_build 37 = .ok (.irem, 1) := by decide +kernel
theorem dL_build_38 : decode cL_build 38 = .ok (.invokestatic 72, 3) := by decide +kernel
theorem dL_build_41 : decode cL_build 41 = .ok (.iload 4, 2) := by decide +kernel
theorem dL_build_43 : decode cL_build 43 = .ok (.bipush 16, 2) := by decide +kernel
theorem dL_build_45 : decode cL_build 45 = .ok (.idiv, 1) := by decide +kernel
theorem dL_build_46 : decode cL_build 46 = .ok (.iconst 3, 1) := by decide +kernel
theorem dL_build_47 : decode cL_build 47 = .ok (.imul, 1) := by decide +kernel
theorem dL_build_48 : decode cL_build 48 = .ok (.ishr, 1) := by decide +kernel
theorem dL_build_49 : decode cL_build 49 = .ok (.sipush 599, 3) := by decide +kernel
theorem dL_build_52 : decode cL_build 52 = .ok (.iload 4, 2) := by decide +kernel
theorem dL_build_54 : decode cL_build 54 = .ok (.imul, 1) := by decide +kernel
theorem dL_build_55 : decode cL_build 55 = .ok (.iadd, 1) := by decide +kernel
theorem dL_build_56 : decode cL_build 56 = .ok (.invokestatic 76, 3) := by decide +kernel
theorem dL_build_59 : decode cL_build 59 = .ok (.ifCond .ne 5, 3) := by decide +kernel
theorem dL_build_62 : decode cL_build 62 = .ok (.aconst_null, 1) := by decide +kernel
theorem dL_build_63 : decode cL_build 63 = .ok (.areturn, 1) := by decide +kernel
theorem dL_build_64 : decode cL_build 64 = .ok (.iinc 4 1, 3) := by decide +kernel
theorem dL_build_67 : decode cL_build 67 = .ok (.goto (-43), 3) := by decide +kernel
theorem dL_build_70 : decode cL_build 70 = .ok (.aload_n 2, 1) := by decide +kernel
theorem dL_build_71 : decode cL_build 71 = .ok (.areturn, 1) := by decide +kernel
set_option maxRecDepth 20000 in
theorem ggL_law_X0_init : GoodIn wsL_law wsX0_init := goodIn_r _ [14, 15, 16, 17, 7, 18, 19, 20, 21, 22, 23, 413, 414, 415, 416, 417, 418, 419, 420, 421, 422] (by decide +kernel) (by decide +kernel)
set_option maxRecDepth 20000 in
theorem gL_law_X0_init : GoodIn wsL_law (wsX0_init) := ggL_law_X0_init
set_option maxRecDepth 20000 in
theorem ggL_law_L_build : GoodIn wsL_law wsL_build := goodIn_ca (goodIn_ca (goodIn_ca (goodIn_r _ [27, 28, 29, 30, 31, 32, 33, 16, 17, 34, 35, 36, 37, 38, 26, 39, 40, 41, 42, 43, 44, 45, 46, 47, 48, 7, 49, 9, 10, 5, 11, 50, 51, 52, 53, 54, 55, 56, 57, 58, 59, 60, 61, 2, 62, 63, 64, 65, 66, 67, 68, 69, 70, 71, 72, 73, 74, 75, 76, 77, 78, 79, 80, 81, 82, 18, 19, 20, 83, 84, 85, 86, 87, 88, 89, 90, 21, 91, 22, 92, 93, 94, 95, 96, 97, 98, 99, 100, 101, 102, 103, 104, 105, 106, 107, 108, 109, 110, 111, 112, 113, 114, 115, 116, 117, 118, 119, 120, 121, 122, 123, 124, 125, 126, 127, 128, 129, 130, 131, 132, 133, 134, 135, 136, 137, 138, 139, 140, 141, 142, 143, 144, 145, 23, 146, 147, 148, 149, 150, 151, 152, 153, 154, 155, 156, 157, 158, 159, 160, 161, 162, 163, 164, 165, 166, 167, 168, 169, 170, 171, 172, 173, 174, 175, 176, 177, 178, 179, 180, 181, 182, 183, 184, 185, 186, 187, 188, 189, 190, 191, 192, 193, 194, 195, 196, 197, 198, 199, 200, 201, 202, 203, 204, 205, 206, 207, 208, 209, 210, 211, 212, 213, 214, 215, 216, 217, 218, 219, 220, 221, 222, 223, 224, 225, 226, 227, 228, 229, 230, 231, 232, 233, 234, 235, 236, 423, 424, 425, 413, 414, 415, 416, 417, 418, 419, 420, 421, 422] (by rfl) (by decide +kernel)) (goodIn_sub (fun _ h => List.mem_append_left _ (List.mem_append_left _ (List.mem_append_right _ h))) (by decide +kernel))) (goodIn_sub (fun _ h => List.mem_append_left _ (List.mem_append_right _ h)) (by decide +kernel))) (goodIn_sub (fun _ h => List.mem_append_right _ h) (by decide +kernel))
set_option maxRecDepth 20000 in
theorem gL_law_L_build : GoodIn wsL_law (va_wsS RL 81 yL_build wsL_build) := goodIn_app (goodIn_of _ (by decide +kernel)) ggL_law_L_build
set_option maxRecDepth 20000 in
theorem ggL_law_L_cell : GoodIn wsL_law wsL_cell := goodIn_r _ [39, 40] (by decide +kernel) (by decide +kernel)
set_option maxRecDepth 20000 in
theorem gL_law_L_cell : GoodIn wsL_law (va_wsS RL 72 yL_cell wsL_cell) := goodIn_app (goodIn_of _ (by decide +kernel)) ggL_law_L_cell
set_option maxRecDepth 20000 in
theorem ggL_law_L_act : GoodIn wsL_law wsL_act := goodIn_ca (goodIn_ca (goodIn_ca (goodIn_r _ [47, 48, 7, 49, 9, 10, 5, 11, 50, 51, 52, 53, 30, 54, 36, 35, 41, 42, 26, 43, 44, 55, 56, 57, 58, 59, 60, 61, 2, 62, 63, 64, 65, 66, 67, 68, 69, 70, 71, 72, 73, 74, 75, 76, 77, 78, 79, 80, 81, 82, 18, 19, 20, 83, 84, 85, 86, 87, 88, 89, 90, 21, 91, 22, 92, 93, 94, 95, 96, 97, 98, 99, 100, 101, 102, 103, 104, 105, 106, 107, 108, 109, 110, 111, 112, 113, 114, 115, 116, 117, 118, 119, 120, 121, 122, 123, 124, 125, 126, 127, 128, 129, 130, 131, 132, 133, 134, 135, 136, 137, 138, 139, 140, 141, 142, 143, 144, 145, 23, 146, 147, 148, 149, 150, 151, 152, 153, 154, 155, 156, 157, 158, 159, 160, 161, 162, 163, 164, 165, 166, 167, 168, 169, 170, 171, 172, 173, 174, 175, 176, 177, 178, 179, 180, 181, 182, 183, 184, 185, 186, 187, 188, 189, 190, 191, 192, 193, 194, 195, 196, 197, 198, 199, 200, 201, 202, 203, 204, 205, 206, 207, 208, 209, 210, 211, 212, 213, 214, 215, 216, 217, 218, 219, 220, 221, 222, 223, 224, 225, 226, 227, 228, 229, 230, 231, 232, 233, 234, 235, 236, 423, 424, 425, 413, 414, 415, 416, 417, 418, 419, 420, 421, 422] (by rfl) (by decide +kernel)) (goodIn_sub (fun _ h => List.mem_append_left _ (List.mem_append_left _ (List.mem_append_right _ h))) (by decide +kernel))) (goodIn_sub (fun _ h => List.mem_append_left _ (List.mem_append_right _ h)) (by decide +kernel))) (goodIn_sub (fun _ h => List.mem_append_right _ h) (by decide +kernel))
set_option maxRecDepth 20000 in
theorem gL_law_L_act : GoodIn wsL_law (va_wsS RL 76 yL_act wsL_act) := goodIn_app (goodIn_of _ (by decide +kernel)) ggL_law_L_act
set_option maxRecDepth 20000 in
theorem ggL_law_X0_words : GoodIn wsL_law wsX0_words := goodIn_r _ [240, 90, 413, 414, 415, 416, 417, 418, 419, 420, 421, 422] (by decide +kernel) (by decide +kernel)
set_option maxRecDepth 20000 in
theorem gL_law_X0_words : GoodIn wsL_law (wsV RL 85 RX0 yX0_words wsX0_words) := goodIn_app (goodIn_of _ (by decide +kernel)) ggL_law_X0_words
set_option maxRecDepth 20000 in
theorem ggL_law_X0_remarks : GoodIn wsL_law wsX0_remarks := goodIn_r _ [244, 74, 413, 414, 415, 416, 417, 418, 419, 420, 421, 422] (by decide +kernel) (by decide +kernel)
set_option maxRecDepth 20000 in
theorem gL_law_X0_remarks : GoodIn wsL_law (wsV RL 88 RX0 yX0_remarks wsX0_remarks) := goodIn_app (goodIn_of _ (by decide +kernel)) ggL_law_X0_remarks
set_option maxRecDepth 20000 in
theorem ggL_law_X0_isCough : GoodIn wsL_law wsX0_isCough := goodIn_ca (goodIn_r _ [248, 154, 155, 156, 2, 157, 66, 67, 74, 92, 93, 94, 95, 19, 96, 97, 98, 413, 414, 415, 416, 417, 418, 419, 420, 421, 422] (by decide +kernel) (by decide +kernel)) (goodIn_sub (fun _ h => List.mem_append_left _ (List.mem_append_left _ (List.mem_append_right _ h))) (by decide +kernel))
set_option maxRecDepth 20000 in
theorem gL_law_X0_isCough : GoodIn wsL_law (wsV RL 94 RX0 yX0_isCough wsX0_isCough) := goodIn_app (goodIn_of _ (by decide +kernel)) ggL_law_X0_isCough
set_option maxRecDepth 20000 in
theorem ggL_law_X0_speakerAt : GoodIn wsL_law wsX0_speakerAt := goodIn_ca (goodIn_r _ [252, 18, 154, 155, 156, 2, 157, 66, 67, 74, 96, 97, 98, 413, 414, 415, 416, 417, 418, 419, 420, 421, 422] (by decide +kernel) (by decide +kernel)) (goodIn_sub (fun _ h => List.mem_append_left _ (List.mem_append_left _ (List.mem_append_right _ h))) (by decide +kernel))
set_option maxRecDepth 20000 in
theorem gL_law_X0_speakerAt : GoodIn wsL_law (wsV RL 98 RX0 yX0_speakerAt wsX0_speakerAt) := goodIn_app (goodIn_of _ (by decide +kernel)) ggL_law_X0_speakerAt
set_option maxRecDepth 20000 in
theorem ggL_law_X0_placeOf : GoodIn wsL_law wsX0_placeOf := goodIn_ca (goodIn_r _ [256, 21, 257, 258, 259, 2, 260, 66, 67, 90, 96, 97, 98, 413, 414, 415, 416, 417, 418, 419, 420, 421, 422] (by decide +kernel) (by decide +kernel)) (goodIn_sub (fun _ h => List.mem_append_left _ (List.mem_append_left _ (List.mem_append_right _ h))) (by decide +kernel))
set_option maxRecDepth 20000 in
theorem gL_law_X0_placeOf : GoodIn wsL_law (wsV RL 101 RX0 yX0_placeOf wsX0_placeOf) := goodIn_app (goodIn_of _ (by decide +kernel)) ggL_law_X0_placeOf
set_option maxRecDepth 20000 in
theorem ggL_law_X0_topicOf : GoodIn wsL_law wsX0_topicOf := goodIn_ca (goodIn_r _ [264, 257, 258, 259, 2, 260, 66, 67, 90, 111, 112, 113, 114, 19, 21, 96, 97, 98, 413, 414, 415, 416, 417, 418, 419, 420, 421, 422] (by decide +kernel) (by decide +kernel)) (goodIn_sub (fun _ h => List.mem_append_left _ (List.mem_append_left _ (List.mem_append_right _ h))) (by decide +kernel))
set_option maxRecDepth 20000 in
theorem gL_law_X0_topicOf : GoodIn wsL_law (wsV RL 104 RX0 yX0_topicOf wsX0_topicOf) := goodIn_app (goodIn_of _ (by decide +kernel)) ggL_law_X0_topicOf
set_option maxRecDepth 20000 in
theorem ggL_law_X0_threadOf : GoodIn wsL_law wsX0_threadOf := goodIn_ca (goodIn_r _ [268, 257, 258, 259, 2, 260, 66, 67, 90, 269, 270, 271, 272, 22, 96, 97, 98, 413, 414, 415, 416, 417, 418, 419, 420, 421, 422] (by decide +kernel) (by decide +kernel)) (goodIn_sub (fun _ h => List.mem_append_left _ (List.mem_append_left _ (List.mem_append_right _ h))) (by decide +kernel))
set_option maxRecDepth 20000 in
theorem gL_law_X0_threadOf : GoodIn wsL_law (wsV RL 107 RX0 yX0_threadOf wsX0_threadOf) := goodIn_app (goodIn_of _ (by decide +kernel)) ggL_law_X0_threadOf
set_option maxRecDepth 20000 in
theorem ggL_law_X0_strainOf : GoodIn wsL_law wsX0_strainOf := goodIn_ca (goodIn_r _ [276, 179, 180, 181, 2, 182, 66, 67, 183, 184, 185, 186, 90, 107, 108, 109, 110, 111, 112, 113, 114, 19, 21, 96, 97, 98, 115, 116, 117, 118, 119, 5, 120, 121, 10, 11, 122, 123, 124, 125, 413, 414, 415, 416, 417, 418, 419, 420, 421, 422] (by decide +kernel) (by decide +kernel)) (goodIn_sub (fun _ h => List.mem_append_left _ (List.mem_append_left _ (List.mem_append_right _ h))) (by decide +kernel))
set_option maxRecDepth 20000 in
theorem gL_law_X0_strainOf : GoodIn wsL_law (wsV RL 110 RX0 yX0_strainOf wsX0_strainOf) := goodIn_app (goodIn_of _ (by decide +kernel)) ggL_law_X0_strainOf
set_option maxRecDepth 20000 in
theorem ggL_law_X0_isBroken : GoodIn wsL_law wsX0_isBroken := goodIn_ca (goodIn_r _ [280, 179, 180, 181, 2, 182, 66, 67, 183, 184, 185, 186, 90, 99, 100, 101, 102, 103, 104, 105, 106, 20, 21, 96, 97, 98, 107, 108, 109, 110, 111, 112, 113, 114, 19, 115, 116, 117, 118, 119, 5, 120, 121, 10, 11, 122, 123, 124, 125, 126, 127, 128, 129, 130, 131, 132, 133, 18, 134, 135, 136, 137, 138, 139, 413, 414, 415, 416, 417, 418, 419, 420, 421, 422] (by decide +kernel) (by decide +kernel)) (goodIn_sub (fun _ h => List.mem_append_left _ (List.mem_append_left _ (List.mem_append_right _ h))) (by decide +kernel))
set_option maxRecDepth 20000 in
theorem gL_law_X0_isBroken : GoodIn wsL_law (wsV RL 113 RX0 yX0_isBroken wsX0_isBroken) := goodIn_app (goodIn_of _ (by decide +kernel)) ggL_law_X0_isBroken
set_option maxRecDepth 20000 in
theorem ggL_law_X0_isSmooth : GoodIn wsL_law wsX0_isSmooth := goodIn_ca (goodIn_r _ [284, 179, 180, 181, 2, 182, 66, 67, 183, 184, 185, 186, 90, 99, 100, 101, 102, 103, 104, 105, 106, 20, 21, 96, 97, 98, 107, 108, 109, 110, 111, 112, 113, 114, 19, 115, 116, 117, 118, 119, 5, 120, 121, 10, 11, 122, 123, 124, 125, 126, 127, 128, 129, 130, 131, 132, 133, 18, 134, 135, 136, 137, 138, 139, 413, 414, 415, 416, 417, 418, 419, 420, 421, 422] (by decide +kernel) (by decide +kernel)) (goodIn_sub (fun _ h => List.mem_append_left _ (List.mem_append_left _ (List.mem_append_right _ h))) (by decide +kernel))
set_option maxRecDepth 20000 in
theorem gL_law_X0_isSmooth : GoodIn wsL_law (wsV RL 116 RX0 yX0_isSmooth wsX0_isSmooth) := goodIn_app (goodIn_of _ (by decide +kernel)) ggL_law_X0_isSmooth
set_option maxRecDepth 20000 in
theorem ggL_law_X0_isPolite : GoodIn wsL_law wsX0_isPolite := goodIn_ca (goodIn_r _ [288, 179, 180, 181, 2, 182, 66, 67, 183, 184, 185, 186, 90, 99, 100, 101, 102, 103, 104, 105, 106, 20, 21, 96, 97, 98, 107, 108, 109, 110, 111, 112, 113, 114, 19, 115, 116, 117, 118, 119, 5, 120, 121, 10, 11, 122, 123, 124, 125, 126, 127, 128, 129, 130, 131, 132, 133, 18, 134, 135, 136, 137, 138, 139, 413, 414, 415, 416, 417, 418, 419, 420, 421, 422] (by decide +kernel) (by decide +kernel)) (goodIn_sub (fun _ h => List.mem_append_left _ (List.mem_append_left _ (List.mem_append_right _ h))) (by decide +kernel))
set_option maxRecDepth 20000 in
theorem gL_law_X0_isPolite : GoodIn wsL_law (wsV RL 119 RX0 yX0_isPolite wsX0_isPolite) := goodIn_app (goodIn_of _ (by decide +kernel)) ggL_law_X0_isPolite
set_option maxRecDepth 20000 in
theorem ggL_law_X0_coughsIn : GoodIn wsL_law wsX0_coughsIn := goodIn_ca (goodIn_r _ [292, 179, 180, 181, 2, 182, 66, 67, 183, 184, 185, 186, 90, 122, 123, 124, 125, 21, 96, 97, 98, 413, 414, 415, 416, 417, 418, 419, 420, 421, 422] (by decide +kernel) (by decide +kernel)) (goodIn_sub (fun _ h => List.mem_append_left _ (List.mem_append_left _ (List.mem_append_right _ h))) (by decide +kernel))
set_option maxRecDepth 20000 in
theorem gL_law_X0_coughsIn : GoodIn wsL_law (wsV RL 122 RX0 yX0_coughsIn wsX0_coughsIn) := goodIn_app (goodIn_of _ (by decide +kernel)) ggL_law_X0_coughsIn
set_option maxRecDepth 20000 in
theorem ggL_law_X0_isTied : GoodIn wsL_law wsX0_isTied := goodIn_ca (goodIn_r _ [296, 179, 180, 181, 2, 182, 66, 67, 183, 184, 185, 186, 90, 103, 104, 105, 106, 20, 21, 96, 97, 98, 413, 414, 415, 416, 417, 418, 419, 420, 421, 422] (by decide +kernel) (by decide +kernel)) (goodIn_sub (fun _ h => List.mem_append_left _ (List.mem_append_left _ (List.mem_append_right _ h))) (by decide +kernel))
set_option maxRecDepth 20000 in
theorem gL_law_X0_isTied : GoodIn wsL_law (wsV RL 125 RX0 yX0_isTied wsX0_isTied) := goodIn_app (goodIn_of _ (by decide +kernel)) ggL_law_X0_isTied
set_option maxRecDepth 20000 in
theorem ggL_law_X0_costOfMending : GoodIn wsL_law wsX0_costOfMending := goodIn_ca (goodIn_r _ [300, 179, 180, 181, 2, 182, 66, 67, 183, 184, 185, 186, 90, 301, 302, 303, 304, 121, 10, 5, 11, 99, 100, 101, 102, 103, 104, 105, 106, 20, 21, 96, 97, 98, 107, 108, 109, 110, 111, 112, 113, 114, 19, 115, 116, 117, 118, 119, 120, 122, 123, 124, 125, 126, 127, 128, 129, 130, 131, 132, 133, 18, 134, 135, 136, 137, 138, 139, 413, 414, 415, 416, 417, 418, 419, 420, 421, 422] (by decide +kernel) (by decide +kernel)) (goodIn_sub (fun _ h => List.mem_append_left _ (List.mem_append_left _ (List.mem_append_right _ h))) (by decide +kernel))
set_option maxRecDepth 20000 in
theorem gL_law_X0_costOfMending : GoodIn wsL_law (wsV RL 128 RX0 yX0_costOfMending wsX0_costOfMending) := goodIn_app (goodIn_of _ (by decide +kernel)) ggL_law_X0_costOfMending
set_option maxRecDepth 20000 in
theorem ggL_law_X0_threads : GoodIn wsL_law wsX0_threads := goodIn_r _ [308, 91, 413, 414, 415, 416, 417, 418, 419, 420, 421, 422] (by decide +kernel) (by decide +kernel)
set_option maxRecDepth 20000 in
theorem gL_law_X0_threads : GoodIn wsL_law (wsV RL 131 RX0 yX0_threads wsX0_threads) := goodIn_app (goodIn_of _ (by decide +kernel)) ggL_law_X0_threads
set_option maxRecDepth 20000 in
theorem ggL_law_X0_lengthOf : GoodIn wsL_law wsX0_lengthOf := goodIn_ca (goodIn_r _ [312, 313, 314, 315, 2, 316, 66, 67, 91, 317, 318, 319, 320, 90, 269, 270, 271, 272, 22, 96, 97, 98, 413, 414, 415, 416, 417, 418, 419, 420, 421, 422] (by decide +kernel) (by decide +kernel)) (goodIn_sub (fun _ h => List.mem_append_left _ (List.mem_append_left _ (List.mem_append_right _ h))) (by decide +kernel))
set_option maxRecDepth 20000 in
theorem gL_law_X0_lengthOf : GoodIn wsL_law (wsV RL 134 RX0 yX0_lengthOf wsX0_lengthOf) := goodIn_app (goodIn_of _ (by decide +kernel)) ggL_law_X0_lengthOf
set_option maxRecDepth 20000 in
theorem ggL_law_X0_topicsIn : GoodIn wsL_law wsX0_topicsIn := goodIn_ca (goodIn_r _ [324, 90, 313, 314, 315, 2, 316, 66, 67, 91, 269, 270, 271, 272, 22, 96, 97, 98, 111, 112, 113, 114, 19, 21, 325, 326, 327, 328, 329, 330, 331, 413, 414, 415, 416, 417, 418, 419, 420, 421, 422] (by decide +kernel) (by decide +kernel)) (goodIn_sub (fun _ h => List.mem_append_left _ (List.mem_append_left _ (List.mem_append_right _ h))) (by decide +kernel))
set_option maxRecDepth 20000 in
theorem gL_law_X0_topicsIn : GoodIn wsL_law (wsV RL 137 RX0 yX0_topicsIn wsX0_topicsIn) := goodIn_app (goodIn_of _ (by decide +kernel)) ggL_law_X0_topicsIn
set_option maxRecDepth 20000 in
theorem ggL_law_X0_wordsOf : GoodIn wsL_law wsX0_wordsOf := goodIn_ca (goodIn_r _ [335, 90, 63, 64, 2, 65, 66, 67, 130, 131, 132, 133, 18, 21, 96, 97, 98, 413, 414, 415, 416, 417, 418, 419, 420, 421, 422] (by decide +kernel) (by decide +kernel)) (goodIn_sub (fun _ h => List.mem_append_left _ (List.mem_append_left _ (List.mem_append_right _ h))) (by decide +kernel))
set_option maxRecDepth 20000 in
theorem gL_law_X0_wordsOf : GoodIn wsL_law (wsV RL 140 RX0 yX0_wordsOf wsX0_wordsOf) := goodIn_app (goodIn_of _ (by decide +kernel)) ggL_law_X0_wordsOf
set_option maxRecDepth 20000 in
theorem ggL_law_X0_threadsOf : GoodIn wsL_law wsX0_threadsOf := goodIn_ca (goodIn_r _ [339, 90, 63, 64, 2, 65, 66, 67, 269, 270, 271, 272, 22, 96, 97, 98, 130, 131, 132, 133, 18, 21, 413, 414, 415, 416, 417, 418, 419, 420, 421, 422] (by decide +kernel) (by decide +kernel)) (goodIn_sub (fun _ h => List.mem_append_left _ (List.mem_append_left _ (List.mem_append_right _ h))) (by decide +kernel))
set_option maxRecDepth 20000 in
theorem gL_law_X0_threadsOf : GoodIn wsL_law (wsV RL 143 RX0 yX0_threadsOf wsX0_threadsOf) := goodIn_app (goodIn_of _ (by decide +kernel)) ggL_law_X0_threadsOf
set_option maxRecDepth 20000 in
theorem ggL_law_X0_coughs : GoodIn wsL_law wsX0_coughs := goodIn_r _ [343, 74, 90, 413, 414, 415, 416, 417, 418, 419, 420, 421, 422] (by decide +kernel) (by decide +kernel)
set_option maxRecDepth 20000 in
theorem gL_law_X0_coughs : GoodIn wsL_law (wsV RL 146 RX0 yX0_coughs wsX0_coughs) := goodIn_app (goodIn_of _ (by decide +kernel)) ggL_law_X0_coughs
set_option maxRecDepth 20000 in
theorem ggL_law_X0_brokenGaps : GoodIn wsL_law wsX0_brokenGaps := goodIn_r _ [347, 348, 349, 350, 2, 351, 183, 184, 185, 186, 90, 99, 100, 101, 102, 103, 104, 105, 106, 20, 21, 96, 97, 98, 107, 108, 109, 110, 111, 112, 113, 114, 19, 115, 116, 117, 118, 119, 5, 120, 121, 10, 11, 122, 123, 124, 125, 126, 127, 128, 129, 130, 131, 132, 133, 18, 134, 135, 136, 137, 138, 139, 413, 414, 415, 416, 417, 418, 419, 420, 421, 422] (by decide +kernel) (by decide +kernel)
set_option maxRecDepth 20000 in
theorem gL_law_X0_brokenGaps : GoodIn wsL_law (wsV RL 149 RX0 yX0_brokenGaps wsX0_brokenGaps) := goodIn_app (goodIn_of _ (by decide +kernel)) ggL_law_X0_brokenGaps
set_option maxRecDepth 20000 in
theorem ggL_law_X0_politeGaps : GoodIn wsL_law wsX0_politeGaps := goodIn_r _ [355, 348, 349, 350, 2, 351, 183, 184, 185, 186, 90, 99, 100, 101, 102, 103, 104, 105, 106, 20, 21, 96, 97, 98, 107, 108, 109, 110, 111, 112, 113, 114, 19, 115, 116, 117, 118, 119, 5, 120, 121, 10, 11, 122, 123, 124, 125, 126, 127, 128, 129, 130, 131, 132, 133, 18, 134, 135, 136, 137, 138, 139, 413, 414, 415, 416, 417, 418, 419, 420, 421, 422] (by decide +kernel) (by decide +kernel)
set_option maxRecDepth 20000 in
theorem gL_law_X0_politeGaps : GoodIn wsL_law (wsV RL 152 RX0 yX0_politeGaps wsX0_politeGaps) := goodIn_app (goodIn_of _ (by decide +kernel)) ggL_law_X0_politeGaps
set_option maxRecDepth 20000 in
theorem ggL_law_X0_costOfAll : GoodIn wsL_law wsX0_costOfAll := goodIn_r _ [359, 183, 184, 185, 2, 186, 90, 301, 302, 303, 304, 121, 10, 5, 11, 99, 100, 101, 102, 103, 104, 105, 106, 20, 21, 96, 97, 98, 107, 108, 109, 110, 111, 112, 113, 114, 19, 115, 116, 117, 118, 119, 120, 122, 123, 124, 125, 126, 127, 128, 129, 130, 131, 132, 133, 18, 134, 135, 136, 137, 138, 139, 413, 414, 415, 416, 417, 418, 419, 420, 421, 422] (by decide +kernel) (by decide +kernel)
set_option maxRecDepth 20000 in
theorem gL_law_X0_costOfAll : GoodIn wsL_law (wsV RL 155 RX0 yX0_costOfAll wsX0_costOfAll) := goodIn_app (goodIn_of _ (by decide +kernel)) ggL_law_X0_costOfAll
set_option maxRecDepth 20000 in
theorem ggL_law_X0_longestThread : GoodIn wsL_law wsX0_longestThread := goodIn_r _ [363, 91, 317, 318, 319, 2, 320, 90, 269, 270, 271, 272, 22, 96, 97, 98, 413, 414, 415, 416, 417, 418, 419, 420, 421, 422] (by decide +kernel) (by decide +kernel)
set_option maxRecDepth 20000 in
theorem gL_law_X0_longestThread : GoodIn wsL_law (wsV RL 158 RX0 yX0_longestThread wsX0_longestThread) := goodIn_app (goodIn_of _ (by decide +kernel)) ggL_law_X0_longestThread
set_option maxRecDepth 20000 in
theorem ggL_law_X0_meanStrain : GoodIn wsL_law wsX0_meanStrain := goodIn_r _ [367, 183, 184, 185, 2, 186, 90, 107, 108, 109, 110, 111, 112, 113, 114, 19, 21, 96, 97, 98, 115, 116, 117, 118, 119, 5, 120, 121, 10, 11, 122, 123, 124, 125, 413, 414, 415, 416, 417, 418, 419, 420, 421, 422] (by decide +kernel) (by decide +kernel)
set_option maxRecDepth 20000 in
theorem gL_law_X0_meanStrain : GoodIn wsL_law (wsV RL 161 RX0 yX0_meanStrain wsX0_meanStrain) := goodIn_app (goodIn_of _ (by decide +kernel)) ggL_law_X0_meanStrain
set_option maxRecDepth 20000 in
theorem ggL_law_X0_patience : GoodIn wsL_law wsX0_patience := goodIn_r _ [371, 23, 413, 414, 415, 416, 417, 418, 419, 420, 421, 422] (by decide +kernel) (by decide +kernel)
set_option maxRecDepth 20000 in
theorem gL_law_X0_patience : GoodIn wsL_law (wsV RL 165 RX0 yX0_patience wsX0_patience) := goodIn_app (goodIn_of _ (by decide +kernel)) ggL_law_X0_patience
set_option maxRecDepth 20000 in
theorem ggL_law_L_below : GoodIn wsL_law wsL_below := goodIn_r _ [43, 44] (by decide +kernel) (by decide +kernel)
set_option maxRecDepth 20000 in
theorem gL_law_L_below : GoodIn wsL_law (va_wsS RL 19 yL_below wsL_below) := goodIn_app (goodIn_of _ (by decide +kernel)) ggL_law_L_below
set_option maxRecDepth 20000 in
theorem ggL_law_X1_insert : GoodIn wsL_law wsX1_insert := goodIn_r _ [58, 36, 35, 423, 424, 425] (by decide +kernel) (by decide +kernel)
set_option maxRecDepth 20000 in
theorem gL_law_X1_insert : GoodIn wsL_law (wsV RL 25 RX1 yX1_insert wsX1_insert) := goodIn_app (goodIn_of _ (by decide +kernel)) ggL_law_X1_insert
set_option maxRecDepth 20000 in
theorem ggL_law_X0_say : GoodIn wsL_law wsX0_say := goodIn_ca (goodIn_ca (goodIn_ca (goodIn_r _ [233, 63, 64, 2, 65, 66, 67, 234, 235, 236, 144, 145, 68, 69, 70, 71, 72, 73, 74, 75, 76, 77, 78, 79, 80, 81, 82, 18, 19, 20, 83, 84, 85, 86, 87, 88, 89, 90, 21, 91, 22, 92, 93, 94, 95, 96, 97, 98, 99, 100, 101, 102, 103, 104, 105, 106, 107, 108, 109, 110, 111, 112, 113, 114, 115, 116, 117, 118, 119, 5, 120, 121, 10, 11, 122, 123, 124, 125, 126, 127, 128, 129, 130, 131, 132, 133, 134, 135, 136, 137, 138, 139, 413, 414, 415, 416, 417, 418, 419, 420, 421, 422] (by decide +kernel) (by decide +kernel)) (goodIn_sub (fun _ h => List.mem_append_left _ (List.mem_append_left _ (List.mem_append_right _ h))) (by decide +kernel))) (goodIn_sub (fun _ h => List.mem_append_right _ h) (by decide +kernel))) (goodIn_sub (fun _ h => List.mem_append_left _ (List.mem_append_right _ h)) (by decide +kernel))
set_option maxRecDepth 20000 in
theorem gL_law_X0_say : GoodIn wsL_law (wsV RL 68 RX0 yX0_say wsX0_say) := goodIn_app (goodIn_of _ (by decide +kernel)) ggL_law_X0_say
set_option maxRecDepth 20000 in
theorem ggL_law_X0_cough : GoodIn wsL_law wsX0_cough := goodIn_ca (goodIn_ca (goodIn_r _ [62, 63, 64, 2, 65, 66, 67, 68, 69, 70, 71, 72, 73, 74, 75, 76, 77, 78, 79, 80, 81, 82, 18, 19, 20, 83, 84, 85, 86, 87, 88, 89, 90, 21, 91, 22, 92, 93, 94, 95, 96, 97, 98, 99, 100, 101, 102, 103, 104, 105, 106, 107, 108, 109, 110, 111, 112, 113, 114, 115, 116, 117, 118, 119, 5, 120, 121, 10, 11, 122, 123, 124, 125, 126, 127, 128, 129, 130, 131, 132, 133, 134, 135, 136, 137, 138, 139, 413, 414, 415, 416, 417, 418, 419, 420, 421, 422] (by decide +kernel) (by decide +kernel)) (goodIn_sub (fun _ h => List.mem_append_left _ (List.mem_append_left _ (List.mem_append_right _ h))) (by decide +kernel))) (goodIn_sub (fun _ h => List.mem_append_left _ (List.mem_append_right _ h)) (by decide +kernel))
set_option maxRecDepth 20000 in
theorem gL_law_X0_cough : GoodIn wsL_law (wsV RL 29 RX0 yX0_cough wsX0_cough) := goodIn_app (goodIn_of _ (by decide +kernel)) ggL_law_X0_cough
set_option maxRecDepth 20000 in
theorem ggL_law_X1_isSame : GoodIn wsL_law wsX1_isSame := goodIn_ca (goodIn_r _ [375, 36, 34, 376, 7, 377, 225, 52, 53, 30, 54, 35, 378, 242, 243, 2, 244, 74, 379, 238, 239, 240, 90, 380, 341, 342, 343, 381, 369, 370, 371, 23, 382, 383, 384, 385, 166, 386, 345, 346, 347, 348, 349, 350, 351, 183, 184, 185, 186, 99, 100, 101, 102, 103, 104, 105, 106, 20, 21, 96, 97, 98, 107, 108, 109, 110, 111, 112, 113, 114, 19, 115, 116, 117, 118, 119, 5, 120, 121, 10, 11, 122, 123, 124, 125, 126, 127, 128, 129, 130, 131, 132, 133, 18, 134, 135, 136, 137, 138, 139, 387, 192, 193, 194, 195, 196, 197, 198, 199, 200, 201, 202, 203, 204, 205, 388, 246, 247, 248, 154, 155, 156, 157, 66, 67, 92, 93, 94, 95, 389, 250, 251, 252, 390, 254, 255, 256, 257, 258, 259, 260, 391, 262, 263, 264, 392, 266, 267, 268, 269, 270, 271, 272, 22, 393, 290, 291, 292, 179, 180, 181, 182, 394, 274, 275, 276, 395, 294, 295, 296, 396, 282, 283, 284, 397, 286, 287, 288, 398, 278, 279, 280, 399, 298, 299, 300, 301, 302, 303, 304, 400, 401, 402, 403, 404, 310, 311, 312, 313, 314, 315, 316, 91, 317, 318, 319, 320, 405, 322, 323, 324, 325, 326, 327, 328, 329, 330, 331, 406, 333, 334, 335, 63, 64, 65, 407, 337, 338, 339, 408, 353, 354, 355, 409, 306, 307, 308, 410, 361, 362, 363, 411, 357, 358, 359, 412, 365, 366, 367, 423, 424, 425, 413, 414, 415, 416, 417, 418, 419, 420, 421, 422] (by rfl) (by decide +kernel)) (goodIn_sub (fun _ h => List.mem_append_left _ (List.mem_append_left _ (List.mem_append_right _ h))) (by decide +kernel))
set_option maxRecDepth 20000 in
theorem gL_law_X1_isSame : GoodIn wsL_law (wsV RL 167 RX1 yX1_isSame wsX1_isSame) := goodIn_app (goodIn_of _ (by decide +kernel)) ggL_law_X1_isSame
theorem dL_law_0 : decode cL_law 0 = .ok (.new 30, 3) := by decide +kernel
theorem dL_law_3 : decode cL_law 3 = .ok (.dup, 1) := by decide +kernel
theorem dL_law_4 : decode cL_law 4 = .ok (.invokespecial 80, 3) := by decide +kernel
theorem dL_law_7 : decode cL_law 7 = .ok (.astore_n 1, 1) := by decide +kernel
theorem dL_law_8 : decode cL_law 8 = .ok (.aload_n 1, 1) := by decide +kernel
theorem dL_law_9 : decode cL_law 9 = .ok (.aload_n 0, 1) := by decide +kernel
theorem dL_law_10 : decode cL_law 10 = .ok (.invokestatic 81, 3) := by decide +kernel
theorem dL_law_13 : decode cL_law 13 = .ok (.astore_n 2, 1) := by decide +kernel
theorem dL_law_14 : decode cL_law 14 = .ok (.aload_n 2, 1) := by decide +kernel
theorem dL_law_15 : decode cL_law 15 = .ok (.ifnonnull 5, 3) := by decide +kernel
theorem dL_law_18 : decode cL_law 18 = .ok (.iconst 0, 1) := by decide +kernel
theorem dL_law_19 : decode cL_law 19 = .ok (.ireturn, 1) := by decide +kernel
theorem dL_law_20 : decode cL_law 20 = .ok (.iconst 0, 1) := by decide +kernel
theorem dL_law_21 : decode cL_law 21 = .ok (.istore_n 3, 1) := by decide +kernel
theorem dL_law_22 : decode cL_law 22 = .ok (.iload_n 3, 1) := by decide +kernel
theorem dL_law_23 : decode cL_law 23 = .ok (.bipush 30, 2) := by decide +kernel
theorem dL_law_25 : decode cL_law 25 = .ok (.if_icmp .ge 1028, 3) := by decide +kernel
theorem dL_law_28 : decode cL_law 28 = .ok (.aload_n 0, 1) := by decide +kernel
theorem dL_law_29 : decode cL_law 29 = .ok (.iload_n 3, 1) := by decide +kernel
theorem dL_law_30 : decode cL_law 30 = .ok (.bipush 16, 2) := by decide +kernel
theorem dL_law_32 : decode cL_law 32 = .ok (.irem, 1) := by decide +kernel
theorem dL_law_33 : decode cL_law 33 = .ok (.invokestatic 72, 3) := by decide +kernel
theorem dL_law_36 : decode cL_law 36 = .ok (.iload_n 3, 1) := by decide +kernel
theorem dL_law_37 : decode cL_law 37 = .ok (.bipush 16, 2) := by decide +kernel
theorem dL_law_39 : decode cL_law 39 = .ok (.idiv, 1) := by decide +kernel
theorem dL_law_40 : decode cL_law 40 = .ok (.iconst 3, 1) := by decide +kernel
theorem dL_law_41 : decode cL_law 41 = .ok (.imul, 1) := by decide +kernel
theorem dL_law_42 : decode cL_law 42 = .ok (.ishr, 1) := by decide +kernel
theorem dL_law_43 : decode cL_law 43 = .ok (.sipush 599, 3) := by decide +kernel
theorem dL_law_46 : decode cL_law 46 = .ok (.iload_n 3, 1) := by decide +kernel
theorem dL_law_47 : decode cL_law 47 = .ok (.imul, 1) := by decide +kernel
theorem dL_law_48 : decode cL_law 48 = .ok (.iadd, 1) := by decide +kernel
theorem dL_law_49 : decode cL_law 49 = .ok (.istore 4, 2) := by decide +kernel
theorem dL_law_51 : decode cL_law 51 = .ok (.aload_n 1, 1) := by decide +kernel
theorem dL_law_52 : decode cL_law 52 = .ok (.aload_n 2, 1) := by decide +kernel
theorem dL_law_53 : decode cL_law 53 = .ok (.iload 4, 2) := by decide +kernel
theorem dL_law_55 : decode cL_law 55 = .ok (.invokestatic 76, 3) := by decide +kernel
theorem dL_law_58 : decode cL_law 58 = .ok (.ifCond .ne 5, 3) := by decide +kernel
theorem dL_law_61 : decode cL_law 61 = .ok (.iconst 0, 1) := by decide +kernel
theorem dL_law_62 : decode cL_law 62 = .ok (.ireturn, 1) := by decide +kernel
theorem dL_law_63 : decode cL_law 63 = .ok (.aload_n 1, 1) := by decide +kernel
theorem dL_law_64 : decode cL_law 64 = .ok (.invokevirtual 85, 3) := by decide +kernel
theorem dL_law_67 : decode cL_law 67 = .ok (.istore 5, 2) := by decide +kernel
theorem dL_law_69 : decode cL_law 69 = .ok (.aload_n 1, 1) := by decide +kernel
theorem dL_law_70 : decode cL_law 70 = .ok (.invokevirtual 88, 3) := by decide +kernel
theorem dL_law_73 : decode cL_law 73 = .ok (.istore 6, 2) := by decide +kernel
theorem dL_law_75 : decode cL_law 75 = .ok (.iconst 0, 1) := by decide +kernel
theorem dL_law_76 : decode cL_law 76 = .ok (.iload 5, 2) := by decide +kernel
theorem dL_law_78 : decode cL_law 78 = .ok (.iconst 1, 1) := by decide +kernel
theorem dL_law_79 : decode cL_law 79 = .ok (.isub, 1) := by decide +kernel
theorem dL_law_80 : decode cL_law 80 = .ok (.invokestatic 91, 3) := by decide +kernel
theorem dL_law_83 : decode cL_law 83 = .ok (.istore 7, 2) := by decide +kernel
theorem dL_law_85 : decode cL_law 85 = .ok (.iconst (-1), 1) := by decide +kernel
theorem dL_law_86 : decode cL_law 86 = .ok (.istore 8, 2) := by decide +kernel
theorem dL_law_88 : decode cL_law 88 = .ok (.iconst 0, 1) := by decide +kernel
theorem dL_law_89 : decode cL_law 89 = .ok (.istore 9, 2) := by decide +kernel
theorem dL_law_91 : decode cL_law 91 = .ok (.iconst 0, 1) := by decide +kernel
theorem dL_law_92 : decode cL_law 92 = .ok (.istore 10, 2) := by decide +kernel
theorem dL_law_94 : decode cL_law 94 = .ok (.iload 10, 2) := by decide +kernel
theorem dL_law_96 : decode cL_law 96 = .ok (.iload 6, 2) := by decide +kernel
theorem dL_law_98 : decode cL_law 98 = .ok (.if_icmp .ge 49, 3) := by decide +kernel
theorem dL_law_101 : decode cL_law 101 = .ok (.iload 9, 2) := by decide +kernel
theorem dL_law_103 : decode cL_law 103 = .ok (.aload_n 1, 1) := by decide +kernel
theorem dL_law_104 : decode cL_law 104 = .ok (.iload 10, 2) := by decide +kernel
theorem dL_law_106 : decode cL_law 106 = .ok (.invokevirtual 94, 3) := by decide +kernel
theorem dL_law_109 : decode cL_law 109 = .ok (.ifCond .eq 7, 3) := by decide +kernel
theorem dL_law_112 : decode cL_law 112 = .ok (.iconst 1, 1) := by decide +kernel
theorem dL_law_113 : decode cL_law 113 = .ok (.goto 4, 3) := by decide +kernel
theorem dL_law_116 : decode cL_law 116 = .ok (.iconst 0, 1) := by decide +kernel
theorem dL_law_117 : decode cL_law 117 = .ok (.iadd, 1) := by decide +kernel
theorem dL_law_118 : decode cL_law 118 = .ok (.istore 9, 2) := by decide +kernel
theorem dL_law_120 : decode cL_law 120 = .ok (.aload_n 1, 1) := by decide +kernel
theorem dL_law_121 : decode cL_law 121 = .ok (.iload 10, 2) := by decide +kernel
theorem dL_law_123 : decode cL_law 123 = .ok (.invokevirtual 98, 3) := by decide +kernel
theorem dL_law_126 : decode cL_law 126 = .ok (.ifCond .lt 13, 3) := by decide +kernel
theorem dL_law_129 : decode cL_law 129 = .ok (.aload_n 1, 1) := by decide +kernel
theorem dL_law_130 : decode cL_law 130 = .ok (.iload 10, 2) := by decide +kernel
theorem dL_law_132 : decode cL_law 132 = .ok (.invokevirtual 98, 3) := by decide +kernel
theorem dL_law_135 : decode cL_law 135 = .ok (.iconst 5, 1) := by decide +kernel
theorem dL_law_136 : decode cL_law 136 = .ok (.if_icmp .le 5, 3) := by decide +kernel
theorem dL_law_139 : decode cL_law 139 = .ok (.iconst 0, 1) := by decide +kernel
theorem dL_law_140 : decode cL_law 140 = .ok (.ireturn, 1) := by decide +kernel
theorem dL_law_141 : decode cL_law 141 = .ok (.iinc 10 1, 3) := by decide +kernel
theorem dL_law_144 : decode cL_law 144 = .ok (.goto (-50), 3) := by decide +kernel
theorem dL_law_147 : decode cL_law 147 = .ok (.iconst 0, 1) := by decide +kernel
theorem dL_law_148 : decode cL_law 148 = .ok (.istore 10, 2) := by decide +kernel
theorem dL_law_150 : decode cL_law 150 = .ok (.iconst 0, 1) := by decide +kernel
theorem dL_law_151 : decode cL_law 151 = .ok (.istore 11, 2) := by decide +kernel
theorem dL_law_153 : decode cL_law 153 = .ok (.iconst 0, 1) := by decide +kernel
theorem dL_law_154 : decode cL_law 154 = .ok (.istore 12, 2) := by decide +kernel
theorem dL_law_156 : decode cL_law 156 = .ok (.iconst 0, 1) := by decide +kernel
theorem dL_law_157 : decode cL_law 157 = .ok (.istore 13, 2) := by decide +kernel
theorem dL_law_159 : decode cL_law 159 = .ok (.iconst 0, 1) := by decide +kernel
theorem dL_law_160 : decode cL_law 160 = .ok (.istore 14, 2) := by decide +kernel
theorem dL_law_162 : decode cL_law 162 = .ok (.iload 7, 2) := by decide +kernel
theorem dL_law_164 : decode cL_law 164 = .ok (.newarray .int, 2) := by decide +kernel
theorem dL_law_166 : decode cL_law 166 = .ok (.astore 15, 2) := by decide +kernel
theorem dL_law_168 : decode cL_law 168 = .ok (.iload 7, 2) := by decide +kernel
theorem dL_law_170 : decode cL_law 170 = .ok (.newarray .boolean, 2) := by decide +kernel
theorem dL_law_172 : decode cL_law 172 = .ok (.astore 16, 2) := by decide +kernel
theorem dL_law_174 : decode cL_law 174 = .ok (.iconst 0, 1) := by decide +kernel
theorem dL_law_175 : decode cL_law 175 = .ok (.istore 17, 2) := by decide +kernel
theorem dL_law_177 : decode cL_law 177 = .ok (.iload 17, 2) := by decide +kernel
theorem dL_law_179 : decode cL_law 179 = .ok (.iload 5, 2) := by decide +kernel
theorem dL_law_181 : decode cL_law 181 = .ok (.if_icmp .ge 328, 3) := by decide +kernel
theorem dL_law_184 : decode cL_law 184 = .ok (.aload_n 1, 1) := by decide +kernel
theorem dL_law_185 : decode cL_law 185 = .ok (.iload 17, 2) := by decide +kernel
theorem dL_law_187 : decode cL_law 187 = .ok (.invokevirtual 101, 3) := by decide +kernel
theorem dL_law_190 : decode cL_law 190 = .ok (.istore 18, 2) := by decide +kernel
theorem dL_law_192 : decode cL_law 192 = .ok (.iload 18, 2) := by decide +kernel
theorem dL_law_194 : decode cL_law 194 = .ok (.iload 8, 2) := by decide +kernel
theorem dL_law_196 : decode cL_law 196 = .ok (.if_icmp .le 43, 3) := by decide +kernel
theorem dL_law_199 : decode cL_law 199 = .ok (.aload_n 1, 1) := by decide +kernel
theorem dL_law_200 : decode cL_law 200 = .ok (.iload 18, 2) := by decide +kernel
theorem dL_law_202 : decode cL_law 202 = .ok (.invokevirtual 94, 3) := by decide +kernel
theorem dL_law_205 : decode cL_law 205 = .ok (.ifCond .ne 34, 3) := by decide +kernel
theorem dL_law_208 : decode cL_law 208 = .ok (.aload_n 1, 1) := by decide +kernel
theorem dL_law_209 : decode cL_law 209 = .ok (.iload 17, 2) := by decide +kernel
theorem dL_law_211 : decode cL_law 211 = .ok (.invokevirtual 104, 3) := by decide +kernel
theorem dL_law_214 : decode cL_law 214 = .ok (.ifCond .lt 25, 3) := by decide +kernel
theorem dL_law_217 : decode cL_law 217 = .ok (.aload_n 1, 1) := by decide +kernel
theorem dL_law_218 : decode cL_law 218 = .ok (.iload 17, 2) := by decide +kernel
theorem dL_law_220 : decode cL_law 220 = .ok (.invokevirtual 104, 3) := by decide +kernel
theorem dL_law_223 : decode cL_law 223 = .ok (.bipush 9, 2) := by decide +kernel
theorem dL_law_225 : decode cL_law 225 = .ok (.if_icmp .gt 14, 3) := by decide +kernel
theorem dL_law_228 : decode cL_law 228 = .ok (.aload_n 1, 1) := by decide +kernel
theorem dL_law_229 : decode cL_law 229 = .ok (.iload 17, 2) := by decide +kernel
theorem dL_law_231 : decode cL_law 231 = .ok (.invokevirtual 107, 3) := by decide +kernel
theorem dL_law_234 : decode cL_law 234 = .ok (.iload 11, 2) := by decide +kernel
theorem dL_law_236 : decode cL_law 236 = .ok (.if_icmp .eq 5, 3) := by decide +kernel
theorem dL_law_239 : decode cL_law 239 = .ok (.iconst 0, 1) := by decide +kernel
theorem dL_law_240 : decode cL_law 240 = .ok (.ireturn, 1) := by decide +kernel
theorem dL_law_241 : decode cL_law 241 = .ok (.iload 18, 2) := by decide +kernel
theorem dL_law_243 : decode cL_law 243 = .ok (.istore 8, 2) := by decide +kernel
theorem dL_law_245 : decode cL_law 245 = .ok (.iload 17, 2) := by decide +kernel
theorem dL_law_247 : decode cL_law 247 = .ok (.iload 5, 2) := by decide +kernel
theorem dL_law_249 : decode cL_law 249 = .ok (.iconst 1, 1) := by decide +kernel
theorem dL_law_250 : decode cL_law 250 = .ok (.isub, 1) := by decide +kernel
theorem dL_law_251 : decode cL_law 251 = .ok (.if_icmp .ne 6, 3) := by decide +kernel
theorem dL_law_254 : decode cL_law 254 = .ok (.goto 255, 3) := by decide +kernel
theorem dL_law_257 : decode cL_law 257 = .ok (.aload 15, 2) := by decide +kernel
theorem dL_law_259 : decode cL_law 259 = .ok (.iload 17, 2) := by decide +kernel
theorem dL_law_261 : decode cL_law 261 = .ok (.aload_n 1, 1) := by decide +kernel
theorem dL_law_262 : decode cL_law 262 = .ok (.iload 17, 2) := by decide +kernel
theorem dL_law_264 : decode cL_law 264 = .ok (.invokevirtual 110, 3) := by decide +kernel
theorem dL_law_267 : decode cL_law 267 = .ok (.iastore, 1) := by decide +kernel
theorem dL_law_268 : decode cL_law 268 = .ok (.aload 16, 2) := by decide +kernel
theorem dL_law_270 : decode cL_law 270 = .ok (.iload 17, 2) := by decide +kernel
theorem dL_law_272 : decode cL_law 272 = .ok (.aload_n 1, 1) := by decide +kernel
theorem dL_law_273 : decode cL_law 273 = .ok (.iload 17, 2) := by decide +kernel
theorem dL_law_275 : decode cL_law 275 = .ok (.invokevirtual 113, 3) := by decide +kernel
theorem dL_law_278 : decode cL_law 278 = .ok (.bastore, 1) := by decide +kernel
theorem dL_law_279 : decode cL_law 279 = .ok (.aload_n 1, 1) := by decide +kernel
theorem dL_law_280 : decode cL_law 280 = .ok (.iload 17, 2) := by decide +kernel
theorem dL_law_282 : decode cL_law 282 = .ok (.invokevirtual 116, 3) := by decide +kernel
theorem dL_law_285 : decode cL_law 285 = .ok (.ifCond .eq 7, 3) := by decide +kernel
theorem dL_law_288 : decode cL_law 288 = .ok (.iconst 1, 1) := by decide +kernel
theorem dL_law_289 : decode cL_law 289 = .ok (.goto 4, 3) := by decide +kernel
theorem dL_law_292 : decode cL_law 292 = .ok (.iconst 0, 1) := by decide +kernel
theorem dL_law_293 : decode cL_law 293 = .ok (.aload_n 1, 1) := by decide +kernel
theorem dL_law_294 : decode cL_law 294 = .ok (.iload 17, 2) := by decide +kernel
theorem dL_law_296 : decode cL_law 296 = .ok (.invokevirtual 119, 3) := by decide +kernel
theorem dL_law_299 : decode cL_law 299 = .ok (.ifCond .eq 7, 3) := by decide +kernel
theorem dL_law_302 : decode cL_law 302 = .ok (.iconst 1, 1) := by decide +kernel
theorem dL_law_303 : decode cL_law 303 = .ok (.goto 4, 3) := by decide +kernel
theorem dL_law_306 : decode cL_law 306 = .ok (.iconst 0, 1) := by decide +kernel
theorem dL_law_307 : decode cL_law 307 = .ok (.iadd, 1) := by decide +kernel
theorem dL_law_308 : decode cL_law 308 = .ok (.aload 16, 2) := by decide +kernel
theorem dL_law_310 : decode cL_law 310 = .ok (.iload 17, 2) := by decide +kernel
theorem dL_law_312 : decode cL_law 312 = .ok (.baload, 1) := by decide +kernel
theorem dL_law_313 : decode cL_law 313 = .ok (.ifCond .eq 7, 3) := by decide +kernel
theorem dL_law_316 : decode cL_law 316 = .ok (.iconst 1, 1) := by decide +kernel
theorem dL_law_317 : decode cL_law 317 = .ok (.goto 4, 3) := by decide +kernel
theorem dL_law_320 : decode cL_law 320 = .ok (.iconst 0, 1) := by decide +kernel
theorem dL_law_321 : decode cL_law 321 = .ok (.iadd, 1) := by decide +kernel
theorem dL_law_322 : decode cL_law 322 = .ok (.istore 19, 2) := by decide +kernel
theorem dL_law_324 : decode cL_law 324 = .ok (.iload 19, 2) := by decide +kernel
theorem dL_law_326 : decode cL_law 326 = .ok (.iconst 1, 1) := by decide +kernel
theorem dL_law_327 : decode cL_law 327 = .ok (.if_icmp .ne 105, 3) := by decide +kernel
theorem dL_law_330 : decode cL_law 330 = .ok (.aload_n 1, 1) := by decide +kernel
theorem dL_law_331 : decode cL_law 331 = .ok (.iload 17, 2) := by decide +kernel
theorem dL_law_333 : decode cL_law 333 = .ok (.invokevirtual 122, 3) := by decide +kernel
theorem dL_law_336 : decode cL_law 336 = .ok (.aload_n 1, 1) := by decide +kernel
theorem dL_law_337 : decode cL_law 337 = .ok (.iload 17, 2) := by decide +kernel
theorem dL_law_339 : decode cL_law 339 = .ok (.iconst 1, 1) := by decide +kernel
theorem dL_law_340 : decode cL_law 340 = .ok (.iadd, 1) := by decide +kernel
theorem dL_law_341 : decode cL_law 341 = .ok (.invokevirtual 101, 3) := by decide +kernel
theorem dL_law_344 : decode cL_law 344 = .ok (.iload 18, 2) := by decide +kernel
theorem dL_law_346 : decode cL_law 346 = .ok (.isub, 1) := by decide +kernel
theorem dL_law_347 : decode cL_law 347 = .ok (.iconst 1, 1) := by decide +kernel
theorem dL_law_348 : decode cL_law 348 = .ok (.isub, 1) := by decide +kernel
theorem dL_law_349 : decode cL_law 349 = .ok (.if_icmp .ne 83, 3) := by decide +kernel
theorem dL_law_352 : decode cL_law 352 = .ok (.aload 15, 2) := by decide +kernel
theorem dL_law_354 : decode cL_law 354 = .ok (.iload 17, 2) := by decide +kernel
theorem dL_law_356 : decode cL_law 356 = .ok (.iaload, 1) := by decide +kernel
theorem dL_law_357 : decode cL_law 357 = .ok (.aload_n 1, 1) := by decide +kernel
theorem dL_law_358 : decode cL_law 358 = .ok (.iload 17, 2) := by decide +kernel
theorem dL_law_360 : decode cL_law 360 = .ok (.invokevirtual 122, 3) := by decide +kernel
theorem dL_law_363 : decode cL_law 363 = .ok (.if_icmp .lt 69, 3) := by decide +kernel
theorem dL_law_366 : decode cL_law 366 = .ok (.aload 15, 2) := by decide +kernel
theorem dL_law_368 : decode cL_law 368 = .ok (.iload 17, 2) := by decide +kernel
theorem dL_law_370 : decode cL_law 370 = .ok (.iaload, 1) := by decide +kernel
theorem dL_law_371 : decode cL_law 371 = .ok (.aload_n 1, 1) := by decide +kernel
theorem dL_law_372 : decode cL_law 372 = .ok (.iload 17, 2) := by decide +kernel
theorem dL_law_374 : decode cL_law 374 = .ok (.invokevirtual 122, 3) := by decide +kernel
theorem dL_law_377 : decode cL_law 377 = .ok (.iconst 5, 1) := by decide +kernel
theorem dL_law_378 : decode cL_law 378 = .ok (.iadd, 1) := by decide +kernel
theorem dL_law_379 : decode cL_law 379 = .ok (.if_icmp .gt 53, 3) := by decide +kernel
theorem dL_law_382 : decode cL_law 382 = .ok (.aload_n 1, 1) := by decide +kernel
theorem dL_law_383 : decode cL_law 383 = .ok (.iload 17, 2) := by decide +kernel
theorem dL_law_385 : decode cL_law 385 = .ok (.invokevirtual 125, 3) := by decide +kernel
theorem dL_law_388 : decode cL_law 388 = .ok (.ifCond .eq 12, 3) := by decide +kernel
theorem dL_law_391 : decode cL_law 391 = .ok (.aload_n 1, 1) := by decide +kernel
theorem dL_law_392 : decode cL_law 392 = .ok (.iload 17, 2) := by decide +kernel
theorem dL_law_394 : decode cL_law 394 = .ok (.invokevirtual 116, 3) := by decide +kernel
theorem dL_law_397 : decode cL_law 397 = .ok (.ifCond .eq 35, 3) := by decide +kernel
theorem dL_law_400 : decode cL_law 400 = .ok (.aload_n 1, 1) := by decide +kernel
theorem dL_law_401 : decode cL_law 401 = .ok (.iload 17, 2) := by decide +kernel
theorem dL_law_403 : decode cL_law 403 = .ok (.invokevirtual 128, 3) := by decide +kernel
theorem dL_law_406 : decode cL_law 406 = .ok (.ifCond .le 7, 3) := by decide +kernel
theorem dL_law_409 : decode cL_law 409 = .ok (.iconst 1, 1) := by decide +kernel
theorem dL_law_410 : decode cL_law 410 = .ok (.goto 4, 3) := by decide +kernel
theorem dL_law_413 : decode cL_law 413 = .ok (.iconst 0, 1) := by decide +kernel
theorem dL_law_414 : decode cL_law 414 = .ok (.aload 16, 2) := by decide +kernel
theorem dL_law_416 : decode cL_law 416 = .ok (.iload 17, 2) := by decide +kernel
theorem dL_law_418 : decode cL_law 418 = .ok (.baload, 1) := by decide +kernel
theorem dL_law_419 : decode cL_law 419 = .ok (.if_icmp .ne 13, 3) := by decide +kernel
theorem dL_law_422 : decode cL_law 422 = .ok (.aload_n 1, 1) := by decide +kernel
theorem dL_law_423 : decode cL_law 423 = .ok (.iload 17, 2) := by decide +kernel
theorem dL_law_425 : decode cL_law 425 = .ok (.invokevirtual 128, 3) := by decide +kernel
theorem dL_law_428 : decode cL_law 428 = .ok (.iconst 3, 1) := by decide +kernel
theorem dL_law_429 : decode cL_law 429 = .ok (.if_icmp .le 5, 3) := by decide +kernel
theorem dL_law_432 : decode cL_law 432 = .ok (.iconst 0, 1) := by decide +kernel
theorem dL_law_433 : decode cL_law 433 = .ok (.ireturn, 1) := by decide +kernel
theorem dL_law_434 : decode cL_law 434 = .ok (.iload 10, 2) := by decide +kernel
theorem dL_law_436 : decode cL_law 436 = .ok (.aload_n 1, 1) := by decide +kernel
theorem dL_law_437 : decode cL_law 437 = .ok (.iload 17, 2) := by decide +kernel
theorem dL_law_439 : decode cL_law 439 = .ok (.invokevirtual 122, 3) := by decide +kernel
theorem dL_law_442 : decode cL_law 442 = .ok (.iadd, 1) := by decide +kernel
theorem dL_law_443 : decode cL_law 443 = .ok (.istore 10, 2) := by decide +kernel
theorem dL_law_445 : decode cL_law 445 = .ok (.iload 11, 2) := by decide +kernel
theorem dL_law_447 : decode cL_law 447 = .ok (.aload 16, 2) := by decide +kernel
theorem dL_law_449 : decode cL_law 449 = .ok (.iload 17, 2) := by decide +kernel
theorem dL_law_451 : decode cL_law 451 = .ok (.baload, 1) := by decide +kernel
theorem dL_law_452 : decode cL_law 452 = .ok (.ifCond .eq 7, 3) := by decide +kernel
theorem dL_law_455 : decode cL_law 455 = .ok (.iconst 1, 1) := by decide +kernel
theorem dL_law_456 : decode cL_law 456 = .ok (.goto 4, 3) := by decide +kernel
theorem dL_law_459 : decode cL_law 459 = .ok (.iconst 0, 1) := by decide +kernel
theorem dL_law_460 : decode cL_law 460 = .ok (.iadd, 1) := by decide +kernel
theorem dL_law_461 : decode cL_law 461 = .ok (.istore 11, 2) := by decide +kernel
theorem dL_law_463 : decode cL_law 463 = .ok (.iload 12, 2) := by decide +kernel
theorem dL_law_465 : decode cL_law 465 = .ok (.aload_n 1, 1) := by decide +kernel
theorem dL_law_466 : decode cL_law 466 = .ok (.iload 17, 2) := by decide +kernel
theorem dL_law_468 : decode cL_law 468 = .ok (.invokevirtual 119, 3) := by decide +kernel
theorem dL_law_471 : decode cL_law 471 = .ok (.ifCond .eq 7, 3) := by decide +kernel
theorem dL_law_474 : decode cL_law 474 = .ok (.iconst 1, 1) := by decide +kernel
theorem dL_law_475 : decode cL_law 475 = .ok (.goto 4, 3) := by decide +kernel
theorem dL_law_478 : decode cL_law 478 = .ok (.iconst 0, 1) := by decide +kernel
theorem dL_law_479 : decode cL_law 479 = .ok (.iadd, 1) := by decide +kernel
theorem dL_law_480 : decode cL_law 480 = .ok (.istore 12, 2) := by decide +kernel
theorem dL_law_482 : decode cL_law 482 = .ok (.iload 13, 2) := by decide +kernel
theorem dL_law_484 : decode cL_law 484 = .ok (.aload_n 1, 1) := by decide +kernel
theorem dL_law_485 : decode cL_law 485 = .ok (.iload 17, 2) := by decide +kernel
theorem dL_law_487 : decode cL_law 487 = .ok (.invokevirtual 128, 3) := by decide +kernel
theorem dL_law_490 : decode cL_law 490 = .ok (.iadd, 1) := by decide +kernel
theorem dL_law_491 : decode cL_law 491 = .ok (.istore 13, 2) := by decide +kernel
theorem dL_law_493 : decode cL_law 493 = .ok (.iload 14, 2) := by decide +kernel
theorem dL_law_495 : decode cL_law 495 = .ok (.aload 15, 2) := by decide +kernel
theorem dL_law_497 : decode cL_law 497 = .ok (.iload 17, 2) := by decide +kernel
theorem dL_law_499 : decode cL_law 499 = .ok (.iaload, 1) := by decide +kernel
theorem dL_law_500 : decode cL_law 500 = .ok (.iadd, 1) := by decide +kernel
theorem dL_law_501 : decode cL_law 501 = .ok (.istore 14, 2) := by decide +kernel
theorem dL_law_503 : decode cL_law 503 = .ok (.iinc 17 1, 3) := by decide +kernel
theorem dL_law_506 : decode cL_law 506 = .ok (.goto (-329), 3) := by decide +kernel
theorem dL_law_509 : decode cL_law 509 = .ok (.aload_n 1, 1) := by decide +kernel
theorem dL_law_510 : decode cL_law 510 = .ok (.invokevirtual 131, 3) := by decide +kernel
theorem dL_law_513 : decode cL_law 513 = .ok (.istore 17, 2) := by decide +kernel
theorem dL_law_515 : decode cL_law 515 = .ok (.iconst 0, 1) := by decide +kernel
theorem dL_law_516 : decode cL_law 516 = .ok (.istore 18, 2) := by decide +kernel
theorem dL_law_518 : decode cL_law 518 = .ok (.iconst 0, 1) := by decide +kernel
theorem dL_law_519 : decode cL_law 519 = .ok (.istore 19, 2) := by decide +kernel
theorem dL_law_521 : decode cL_law 521 = .ok (.iconst 0, 1) := by decide +kernel
theorem dL_law_522 : decode cL_law 522 = .ok (.istore 20, 2) := by decide +kernel
theorem dL_law_524 : decode cL_law 524 = .ok (.iload 20, 2) := by decide +kernel
theorem dL_law_526 : decode cL_law 526 = .ok (.iload 17, 2) := by decide +kernel
theorem dL_law_528 : decode cL_law 528 = .ok (.if_icmp .ge 67, 3) := by decide +kernel
theorem dL_law_531 : decode cL_law 531 = .ok (.aload_n 1, 1) := by decide +kernel
theorem dL_law_532 : decode cL_law 532 = .ok (.iload 20, 2) := by decide +kernel
theorem dL_law_534 : decode cL_law 534 = .ok (.invokevirtual 134, 3) := by decide +kernel
theorem dL_law_537 : decode cL_law 537 = .ok (.istore 21, 2) := by decide +kernel
theorem dL_law_539 : decode cL_law 539 = .ok (.iload 18, 2) := by decide +kernel
theorem dL_law_541 : decode cL_law 541 = .ok (.iload 21, 2) := by decide +kernel
theorem dL_law_543 : decode cL_law 543 = .ok (.iadd, 1) := by decide +kernel
theorem dL_law_544 : decode cL_law 544 = .ok (.istore 18, 2) := by decide +kernel
theorem dL_law_546 : decode cL_law 546 = .ok (.iload 19, 2) := by decide +kernel
theorem dL_law_548 : decode cL_law 548 = .ok (.iload 21, 2) := by decide +kernel
theorem dL_law_550 : decode cL_law 550 = .ok (.invokestatic 91, 3) := by decide +kernel
theorem dL_law_553 : decode cL_law 553 = .ok (.istore 19, 2) := by decide +kernel
theorem dL_law_555 : decode cL_law 555 = .ok (.iload 21, 2) := by decide +kernel
theorem dL_law_557 : decode cL_law 557 = .ok (.iconst 1, 1) := by decide +kernel
theorem dL_law_558 : decode cL_law 558 = .ok (.if_icmp .lt 29, 3) := by decide +kernel
theorem dL_law_561 : decode cL_law 561 = .ok (.aload_n 1, 1) := by decide +kernel
theorem dL_law_562 : decode cL_law 562 = .ok (.iload 20, 2) := by decide +kernel
theorem dL_law_564 : decode cL_law 564 = .ok (.invokevirtual 137, 3) := by decide +kernel
theorem dL_law_567 : decode cL_law 567 = .ok (.iconst 1, 1) := by decide +kernel
theorem dL_law_568 : decode cL_law 568 = .ok (.if_icmp .lt 19, 3) := by decide +kernel
theorem dL_law_571 : decode cL_law 571 = .ok (.aload_n 1, 1) := by decide +kernel
theorem dL_law_572 : decode cL_law 572 = .ok (.iload 20, 2) := by decide +kernel
theorem dL_law_574 : decode cL_law 574 = .ok (.invokevirtual 137, 3) := by decide +kernel
theorem dL_law_577 : decode cL_law 577 = .ok (.bipush 10, 2) := by decide +kernel
theorem dL_law_579 : decode cL_law 579 = .ok (.iload 21, 2) := by decide +kernel
theorem dL_law_581 : decode cL_law 581 = .ok (.invokestatic 39, 3) := by decide +kernel
theorem dL_law_584 : decode cL_law 584 = .ok (.if_icmp .le 5, 3) := by decide +kernel
theorem dL_law_587 : decode cL_law 587 = .ok (.iconst 0, 1) := by decide +kernel
theorem dL_law_588 : decode cL_law 588 = .ok (.ireturn, 1) := by decide +kernel
theorem dL_law_589 : decode cL_law 589 = .ok (.iinc 20 1, 3) := by decide +kernel
theorem dL_law_592 : decode cL_law 592 = .ok (.goto (-68), 3) := by decide +kernel
theorem dL_law_595 : decode cL_law 595 = .ok (.iconst 0, 1) := by decide +kernel
theorem dL_law_596 : decode cL_law 596 = .ok (.istore 20, 2) := by decide +kernel
theorem dL_law_598 : decode cL_law 598 = .ok (.iconst 0, 1) := by decide +kernel
theorem dL_law_599 : decode cL_law 599 = .ok (.istore 21, 2) := by decide +kernel
theorem dL_law_601 : decode cL_law 601 = .ok (.iconst 0, 1) := by decide +kernel
theorem dL_law_602 : decode cL_law 602 = .ok (.istore 22, 2) := by decide +kernel
theorem dL_law_604 : decode cL_law 604 = .ok (.iload 22, 2) := by decide +kernel
theorem dL_law_606 : decode cL_law 606 = .ok (.bipush 6, 2) := by decide +kernel
theorem dL_law_608 : decode cL_law 608 = .ok (.if_icmp .ge 84, 3) := by decide +kernel
theorem dL_law_611 : decode cL_law 611 = .ok (.iload 20, 2) := by decide +kernel
theorem dL_law_613 : decode cL_law 613 = .ok (.aload_n 1, 1) := by decide +kernel
theorem dL_law_614 : decode cL_law 614 = .ok (.iload 22, 2) := by decide +kernel
theorem dL_law_616 : decode cL_law 616 = .ok (.invokevirtual 140, 3) := by decide +kernel
theorem dL_law_619 : decode cL_law 619 = .ok (.iadd, 1) := by decide +kernel
theorem dL_law_620 : decode cL_law 620 = .ok (.istore 20, 2) := by decide +kernel
theorem dL_law_622 : decode cL_law 622 = .ok (.iload 21, 2) := by decide +kernel
theorem dL_law_624 : decode cL_law 624 = .ok (.aload_n 1, 1) := by decide +kernel
theorem dL_law_625 : decode cL_law 625 = .ok (.iload 22, 2) := by decide +kernel
theorem dL_law_627 : decode cL_law 627 = .ok (.invokevirtual 143, 3) := by decide +kernel
theorem dL_law_630 : decode cL_law 630 = .ok (.iadd, 1) := by decide +kernel
theorem dL_law_631 : decode cL_law 631 = .ok (.istore 21, 2) := by decide +kernel
theorem dL_law_633 : decode cL_law 633 = .ok (.aload_n 1, 1) := by decide +kernel
theorem dL_law_634 : decode cL_law 634 = .ok (.iload 22, 2) := by decide +kernel
theorem dL_law_636 : decode cL_law 636 = .ok (.invokevirtual 143, 3) := by decide +kernel
theorem dL_law_639 : decode cL_law 639 = .ok (.iload 17, 2) := by decide +kernel
theorem dL_law_641 : decode cL_law 641 = .ok (.aload_n 1, 1) := by decide +kernel
theorem dL_law_642 : decode cL_law 642 = .ok (.iload 22, 2) := by decide +kernel
theorem dL_law_644 : decode cL_law 644 = .ok (.invokevirtual 140, 3) := by decide +kernel
theorem dL_law_647 : decode cL_law 647 = .ok (.invokestatic 39, 3) := by decide +kernel
theorem dL_law_650 : decode cL_law 650 = .ok (.if_icmp .gt 34, 3) := by decide +kernel
theorem dL_law_653 : decode cL_law 653 = .ok (.aload_n 1, 1) := by decide +kernel
theorem dL_law_654 : decode cL_law 654 = .ok (.iload 22, 2) := by decide +kernel
theorem dL_law_656 : decode cL_law 656 = .ok (.invokevirtual 140, 3) := by decide +kernel
theorem dL_law_659 : decode cL_law 659 = .ok (.ifCond .le 7, 3) := by decide +kernel
theorem dL_law_662 : decode cL_law 662 = .ok (.iconst 1, 1) := by decide +kernel
theorem dL_law_663 : decode cL_law 663 = .ok (.goto 4, 3) := by decide +kernel
theorem dL_law_666 : decode cL_law 666 = .ok (.iconst 0, 1) := by decide +kernel
theorem dL_law_667 : decode cL_law 667 = .ok (.aload_n 1, 1) := by decide +kernel
theorem dL_law_668 : decode cL_law 668 = .ok (.iload 22, 2) := by decide +kernel
theorem dL_law_670 : decode cL_law 670 = .ok (.invokevirtual 143, 3) := by decide +kernel
theorem dL_law_673 : decode cL_law 673 = .ok (.ifCond .le 7, 3) := by decide +kernel
theorem dL_law_676 : decode cL_law 676 = .ok (.iconst 1, 1) := by decide +kernel
theorem dL_law_677 : decode cL_law 677 = .ok (.goto 4, 3) := by decide +kernel
theorem dL_law_680 : decode cL_law 680 = .ok (.iconst 0, 1) := by decide +kernel
theorem dL_law_681 : decode cL_law 681 = .ok (.if_icmp .eq 5, 3) := by decide +kernel
theorem dL_law_684 : decode cL_law 684 = .ok (.iconst 0, 1) := by decide +kernel
theorem dL_law_685 : decode cL_law 685 = .ok (.ireturn, 1) := by decide +kernel
theorem dL_law_686 : decode cL_law 686 = .ok (.iinc 22 1, 3) := by decide +kernel
theorem dL_law_689 : decode cL_law 689 = .ok (.goto (-85), 3) := by decide +kernel
theorem dL_law_692 : decode cL_law 692 = .ok (.iload 9, 2) := by decide +kernel
theorem dL_law_694 : decode cL_law 694 = .ok (.iload 5, 2) := by decide +kernel
theorem dL_law_696 : decode cL_law 696 = .ok (.iadd, 1) := by decide +kernel
theorem dL_law_697 : decode cL_law 697 = .ok (.iload 6, 2) := by decide +kernel
theorem dL_law_699 : decode cL_law 699 = .ok (.if_icmp .ne 171, 3) := by decide +kernel
theorem dL_law_702 : decode cL_law 702 = .ok (.iload 9, 2) := by decide +kernel
theorem dL_law_704 : decode cL_law 704 = .ok (.aload_n 1, 1) := by decide +kernel
theorem dL_law_705 : decode cL_law 705 = .ok (.invokevirtual 146, 3) := by decide +kernel
theorem dL_law_708 : decode cL_law 708 = .ok (.if_icmp .ne 162, 3) := by decide +kernel
theorem dL_law_711 : decode cL_law 711 = .ok (.iload 10, 2) := by decide +kernel
theorem dL_law_713 : decode cL_law 713 = .ok (.iload 9, 2) := by decide +kernel
theorem dL_law_715 : decode cL_law 715 = .ok (.if_icmp .gt 155, 3) := by decide +kernel
theorem dL_law_718 : decode cL_law 718 = .ok (.iload 11, 2) := by decide +kernel
theorem dL_law_720 : decode cL_law 720 = .ok (.aload_n 1, 1) := by decide +kernel
theorem dL_law_721 : decode cL_law 721 = .ok (.invokevirtual 149, 3) := by decide +kernel
theorem dL_law_724 : decode cL_law 724 = .ok (.if_icmp .ne 146, 3) := by decide +kernel
theorem dL_law_727 : decode cL_law 727 = .ok (.iload 12, 2) := by decide +kernel
theorem dL_law_729 : decode cL_law 729 = .ok (.aload_n 1, 1) := by decide +kernel
theorem dL_law_730 : decode cL_law 730 = .ok (.invokevirtual 152, 3) := by decide +kernel
theorem dL_law_733 : decode cL_law 733 = .ok (.if_icmp .ne 137, 3) := by decide +kernel
theorem dL_law_736 : decode cL_law 736 = .ok (.iload 13, 2) := by decide +kernel
theorem dL_law_738 : decode cL_law 738 = .ok (.aload_n 1, 1) := by decide +kernel
theorem dL_law_739 : decode cL_law 739 = .ok (.invokevirtual 155, 3) := by decide +kernel
theorem dL_law_742 : decode cL_law 742 = .ok (.if_icmp .ne 128, 3) := by decide +kernel
theorem dL_law_745 : decode cL_law 745 = .ok (.iload 17, 2) := by decide +kernel
theorem dL_law_747 : decode cL_law 747 = .ok (.iload 5, 2) := by decide +kernel
theorem dL_law_749 : decode cL_law 749 = .ok (.ifCond .ne 7, 3) := by decide +kernel
theorem dL_law_752 : decode cL_law 752 = .ok (.iconst 0, 1) := by decide +kernel
theorem dL_law_753 : decode cL_law 753 = .ok (.goto 7, 3) := by decide +kernel
theorem dL_law_756 : decode cL_law 756 = .ok (.iload 11, 2) := by decide +kernel
theorem dL_law_758 : decode cL_law 758 = .ok (.iconst 1, 1) := by decide +kernel
theorem dL_law_759 : decode cL_law 759 = .ok (.iadd, 1) := by decide +kernel
theorem dL_law_760 : decode cL_law 760 = .ok (.if_icmp .ne 110, 3) := by decide +kernel
theorem dL_law_763 : decode cL_law 763 = .ok (.iload 18, 2) := by decide +kernel
theorem dL_law_765 : decode cL_law 765 = .ok (.iload 5, 2) := by decide +kernel
theorem dL_law_767 : decode cL_law 767 = .ok (.if_icmp .ne 103, 3) := by decide +kernel
theorem dL_law_770 : decode cL_law 770 = .ok (.iload 20, 2) := by decide +kernel
theorem dL_law_772 : decode cL_law 772 = .ok (.iload 5, 2) := by decide +kernel
theorem dL_law_774 : decode cL_law 774 = .ok (.if_icmp .ne 96, 3) := by decide +kernel
theorem dL_law_777 : decode cL_law 777 = .ok (.iload 21, 2) := by decide +kernel
theorem dL_law_779 : decode cL_law 779 = .ok (.iload 17, 2) := by decide +kernel
theorem dL_law_781 : decode cL_law 781 = .ok (.if_icmp .lt 89, 3) := by decide +kernel
theorem dL_law_784 : decode cL_law 784 = .ok (.aload_n 1, 1) := by decide +kernel
theorem dL_law_785 : decode cL_law 785 = .ok (.invokevirtual 158, 3) := by decide +kernel
theorem dL_law_788 : decode cL_law 788 = .ok (.iconst (-1), 1) := by decide +kernel
theorem dL_law_789 : decode cL_law 789 = .ok (.if_icmp .eq 16, 3) := by decide +kernel
theorem dL_law_792 : decode cL_law 792 = .ok (.aload_n 1, 1) := by decide +kernel
theorem dL_law_793 : decode cL_law 793 = .ok (.aload_n 1, 1) := by decide +kernel
theorem dL_law_794 : decode cL_law 794 = .ok (.invokevirtual 158, 3) := by decide +kernel
theorem dL_law_797 : decode cL_law 797 = .ok (.invokevirtual 134, 3) := by decide +kernel
theorem dL_law_800 : decode cL_law 800 = .ok (.iload 19, 2) := by decide +kernel
theorem dL_law_802 : decode cL_law 802 = .ok (.if_icmp .ne 68, 3) := by decide +kernel
theorem dL_law_805 : decode cL_law 805 = .ok (.aload_n 1, 1) := by decide +kernel
theorem dL_law_806 : decode cL_law 806 = .ok (.invokevirtual 158, 3) := by decide +kernel
theorem dL_law_809 : decode cL_law 809 = .ok (.ifCond .ge 7, 3) := by decide +kernel
theorem dL_law_812 : decode cL_law 812 = .ok (.iconst 1, 1) := by decide +kernel
theorem dL_law_813 : decode cL_law 813 = .ok (.goto 4, 3) := by decide +kernel
theorem dL_law_816 : decode cL_law 816 = .ok (.iconst 0, 1) := by decide +kernel
theorem dL_law_817 : decode cL_law 817 = .ok (.iload 5, 2) := by decide +kernel
theorem dL_law_819 : decode cL_law 819 = .ok (.ifCond .ne 7, 3) := by decide +kernel
theorem dL_law_822 : decode cL_law 822 = .ok (.iconst 1, 1) := by decide +kernel
theorem dL_law_823 : decode cL_law 823 = .ok (.goto 4, 3) := by decide +kernel
theorem dL_law_826 : decode cL_law 826 = .ok (.iconst 0, 1) := by decide +kernel
theorem dL_law_827 : decode cL_law 827 = .ok (.if_icmp .ne 43, 3) := by decide +kernel
theorem dL_law_830 : decode cL_law 830 = .ok (.aload_n 1, 1) := by decide +kernel
theorem dL_law_831 : decode cL_law 831 = .ok (.invokevirtual 161, 3) := by decide +kernel
theorem dL_law_834 : decode cL_law 834 = .ok (.iload 7, 2) := by decide +kernel
theorem dL_law_836 : decode cL_law 836 = .ok (.ifCond .ne 7, 3) := by decide +kernel
theorem dL_law_839 : decode cL_law 839 = .ok (.dconst 0, 1) := by decide +kernel
theorem dL_law_840 : decode cL_law 840 = .ok (.goto 10, 3) := by decide +kernel
theorem dL_law_843 : decode cL_law 843 = .ok (.iload 14, 2) := by decide +kernel
theorem dL_law_845 : decode cL_law 845 = .ok (.i2d, 1) := by decide +kernel
theorem dL_law_846 : decode cL_law 846 = .ok (.iload 7, 2) := by decide +kernel
theorem dL_law_848 : decode cL_law 848 = .ok (.i2d, 1) := by decide +kernel
theorem dL_law_849 : decode cL_law 849 = .ok (.ddiv, 1) := by decide +kernel
theorem dL_law_850 : decode cL_law 850 = .ok (.dcmp .l, 1) := by decide +kernel
theorem dL_law_851 : decode cL_law 851 = .ok (.ifCond .ne 19, 3) := by decide +kernel
theorem dL_law_854 : decode cL_law 854 = .ok (.aload_n 1, 1) := by decide +kernel
theorem dL_law_855 : decode cL_law 855 = .ok (.invokevirtual 165, 3) := by decide +kernel
theorem dL_law_858 : decode cL_law 858 = .ok (.ifCond .lt 12, 3) := by decide +kernel
theorem dL_law_861 : decode cL_law 861 = .ok (.aload_n 1, 1) := by decide +kernel
theorem dL_law_862 : decode cL_law 862 = .ok (.invokevirtual 165, 3) := by decide +kernel
theorem dL_law_865 : decode cL_law 865 = .ok (.bipush 99, 2) := by decide +kernel
theorem dL_law_867 : decode cL_law 867 = .ok (.if_icmp .le 5, 3) := by decide +kernel
theorem dL_law_870 : decode cL_law 870 = .ok (.iconst 0, 1) := by decide +kernel
theorem dL_law_871 : decode cL_law 871 = .ok (.ireturn, 1) := by decide +kernel
theorem dL_law_872 : decode cL_law 872 = .ok (.iload 6, 2) := by decide +kernel
theorem dL_law_874 : decode cL_law 874 = .ok (.bipush 24, 2) := by decide +kernel
theorem dL_law_876 : decode cL_law 876 = .ok (.if_icmp .ne 6, 3) := by decide +kernel
theorem dL_law_879 : decode cL_law 879 = .ok (.goto 168, 3) := by decide +kernel
theorem dL_law_882 : decode cL_law 882 = .ok (.iload 4, 2) := by decide +kernel
theorem dL_law_884 : decode cL_law 884 = .ok (.iconst 2, 1) := by decide +kernel
theorem dL_law_885 : decode cL_law 885 = .ok (.ishr, 1) := by decide +kernel
theorem dL_law_886 : decode cL_law 886 = .ok (.bipush 6, 2) := by decide +kernel
theorem dL_law_888 : decode cL_law 888 = .ok (.invokestatic 19, 3) := by decide +kernel
theorem dL_law_891 : decode cL_law 891 = .ok (.istore 22, 2) := by decide +kernel
theorem dL_law_893 : decode cL_law 893 = .ok (.iload 4, 2) := by decide +kernel
theorem dL_law_895 : decode cL_law 895 = .ok (.iconst 3, 1) := by decide +kernel
theorem dL_law_896 : decode cL_law 896 = .ok (.ishr, 1) := by decide +kernel
theorem dL_law_897 : decode cL_law 897 = .ok (.bipush 10, 2) := by decide +kernel
theorem dL_law_899 : decode cL_law 899 = .ok (.invokestatic 19, 3) := by decide +kernel
theorem dL_law_902 : decode cL_law 902 = .ok (.istore 23, 2) := by decide +kernel
theorem dL_law_904 : decode cL_law 904 = .ok (.iload 4, 2) := by decide +kernel
theorem dL_law_906 : decode cL_law 906 = .ok (.iconst 2, 1) := by decide +kernel
theorem dL_law_907 : decode cL_law 907 = .ok (.invokestatic 19, 3) := by decide +kernel
theorem dL_law_910 : decode cL_law 910 = .ok (.ifCond .ne 7, 3) := by decide +kernel
theorem dL_law_913 : decode cL_law 913 = .ok (.iconst 1, 1) := by decide +kernel
theorem dL_law_914 : decode cL_law 914 = .ok (.goto 4, 3) := by decide +kernel
theorem dL_law_917 : decode cL_law 917 = .ok (.iconst 0, 1) := by decide +kernel
theorem dL_law_918 : decode cL_law 918 = .ok (.istore 24, 2) := by decide +kernel
theorem dL_law_920 : decode cL_law 920 = .ok (.aload_n 2, 1) := by decide +kernel
theorem dL_law_921 : decode cL_law 921 = .ok (.iload 6, 2) := by decide +kernel
theorem dL_law_923 : decode cL_law 923 = .ok (.iconst 3, 1) := by decide +kernel
theorem dL_law_924 : decode cL_law 924 = .ok (.newarray .int, 2) := by decide +kernel
theorem dL_law_926 : decode cL_law 926 = .ok (.dup, 1) := by decide +kernel
theorem dL_law_927 : decode cL_law 927 = .ok (.iconst 0, 1) := by decide +kernel
theorem dL_law_928 : decode cL_law 928 = .ok (.iload 22, 2) := by decide +kernel
theorem dL_law_930 : decode cL_law 930 = .ok (.iastore, 1) := by decide +kernel
theorem dL_law_931 : decode cL_law 931 = .ok (.dup, 1) := by decide +kernel
theorem dL_law_932 : decode cL_law 932 = .ok (.iconst 1, 1) := by decide +kernel
theorem dL_law_933 : decode cL_law 933 = .ok (.iload 24, 2) := by decide +kernel
theorem dL_law_935 : decode cL_law 935 = .ok (.ifCond .eq 8, 3) := by decide +kernel
theorem dL_law_938 : decode cL_law 938 = .ok (.iload 23, 2) := by decide +kernel
theorem dL_law_940 : decode cL_law 940 = .ok (.goto 4, 3) := by decide +kernel
theorem dL_law_943 : decode cL_law 943 = .ok (.iconst (-1), 1) := by decide +kernel
theorem dL_law_944 : decode cL_law 944 = .ok (.iastore, 1) := by decide +kernel
theorem dL_law_945 : decode cL_law 945 = .ok (.dup, 1) := by decide +kernel
theorem dL_law_946 : decode cL_law 946 = .ok (.iconst 2, 1) := by decide +kernel
theorem dL_law_947 : decode cL_law 947 = .ok (.iconst 0, 1) := by decide +kernel
theorem dL_law_948 : decode cL_law 948 = .ok (.iastore, 1) := by decide +kernel
theorem dL_law_949 : decode cL_law 949 = .ok (.invokevirtual 25, 3) := by decide +kernel
theorem dL_law_952 : decode cL_law 952 = .ok (.iload 24, 2) := by decide +kernel
theorem dL_law_954 : decode cL_law 954 = .ok (.ifCond .eq 14, 3) := by decide +kernel
theorem dL_law_957 : decode cL_law 957 = .ok (.aload_n 1, 1) := by decide +kernel
theorem dL_law_958 : decode cL_law 958 = .ok (.iload 22, 2) := by decide +kernel
theorem dL_law_960 : decode cL_law 960 = .ok (.iload 23, 2) := by decide +kernel
theorem dL_law_962 : decode cL_law 962 = .ok (.invokevirtual 68, 3) := by decide +kernel
theorem dL_law_965 : decode cL_law 965 = .ok (.goto 9, 3) := by decide +kernel
theorem dL_law_968 : decode cL_law 968 = .ok (.aload_n 1, 1) := by decide +kernel
theorem dL_law_969 : decode cL_law 969 = .ok (.iload 22, 2) := by decide +kernel
theorem dL_law_971 : decode cL_law 971 = .ok (.invokevirtual 29, 3) := by decide +kernel
theorem dL_law_974 : decode cL_law 974 = .ok (.iload 6, 2) := by decide +kernel
theorem dL_law_976 : decode cL_law 976 = .ok (.if_icmp .ne 23, 3) := by decide +kernel
theorem dL_law_979 : decode cL_law 979 = .ok (.aload_n 1, 1) := by decide +kernel
theorem dL_law_980 : decode cL_law 980 = .ok (.invokevirtual 85, 3) := by decide +kernel
theorem dL_law_983 : decode cL_law 983 = .ok (.iload 5, 2) := by decide +kernel
theorem dL_law_985 : decode cL_law 985 = .ok (.iload 24, 2) := by decide +kernel
theorem dL_law_987 : decode cL_law 987 = .ok (.ifCond .eq 7, 3) := by decide +kernel
theorem dL_law_990 : decode cL_law 990 = .ok (.iconst 1, 1) := by decide +kernel
theorem dL_law_991 : decode cL_law 991 = .ok (.goto 4, 3) := by decide +kernel
theorem dL_law_994 : decode cL_law 994 = .ok (.iconst 0, 1) := by decide +kernel
theorem dL_law_995 : decode cL_law 995 = .ok (.iadd, 1) := by decide +kernel
theorem dL_law_996 : decode cL_law 996 = .ok (.if_icmp .eq 5, 3) := by decide +kernel
theorem dL_law_999 : decode cL_law 999 = .ok (.iconst 0, 1) := by decide +kernel
theorem dL_law_1000 : decode cL_law 1000 = .ok (.ireturn, 1) := by decide +kernel
theorem dL_law_1001 : decode cL_law 1001 = .ok (.iconst 0, 1) := by decide +kernel
theorem dL_law_1002 : decode cL_law 1002 = .ok (.istore 25, 2) := by decide +kernel
theorem dL_law_1004 : decode cL_law 1004 = .ok (.iload 25, 2) := by decide +kernel
theorem dL_law_1006 : decode cL_law 1006 = .ok (.iload 7, 2) := by decide +kernel
theorem dL_law_1008 : decode cL_law 1008 = .ok (.if_icmp .ge 39, 3) := by decide +kernel
theorem dL_law_1011 : decode cL_law 1011 = .ok (.aload_n 1, 1) := by decide +kernel
theorem dL_law_1012 : decode cL_law 1012 = .ok (.iload 25, 2) := by decide +kernel
theorem dL_law_1014 : decode cL_law 1014 = .ok (.invokevirtual 110, 3) := by decide +kernel
theorem dL_law_1017 : decode cL_law 1017 = .ok (.aload 15, 2) := by decide +kernel
theorem dL_law_1019 : decode cL_law 1019 = .ok (.iload 25, 2) := by decide +kernel
theorem dL_law_1021 : decode cL_law 1021 = .ok (.iaload, 1) := by decide +kernel
theorem dL_law_1022 : decode cL_law 1022 = .ok (.if_icmp .ne 17, 3) := by decide +kernel
theorem dL_law_1025 : decode cL_law 1025 = .ok (.aload_n 1, 1) := by decide +kernel
theorem dL_law_1026 : decode cL_law 1026 = .ok (.iload 25, 2) := by decide +kernel
theorem dL_law_1028 : decode cL_law 1028 = .ok (.invokevirtual 113, 3) := by decide +kernel
theorem dL_law_1031 : decode cL_law 1031 = .ok (.aload 16, 2) := by decide +kernel
theorem dL_law_1033 : decode cL_law 1033 = .ok (.iload 25, 2) := by decide +kernel
theorem dL_law_1035 : decode cL_law 1035 = .ok (.baload, 1) := by decide +kernel
theorem dL_law_1036 : decode cL_law 1036 = .ok (.if_icmp .eq 5, 3) := by decide +kernel
theorem dL_law_1039 : decode cL_law 1039 = .ok (.iconst 0, 1) := by decide +kernel
theorem dL_law_1040 : decode cL_law 1040 = .ok (.ireturn, 1) := by decide +kernel
theorem dL_law_1041 : decode cL_law 1041 = .ok (.iinc 25 1, 3) := by decide +kernel
theorem dL_law_1044 : decode cL_law 1044 = .ok (.goto (-40), 3) := by decide +kernel
theorem dL_law_1047 : decode cL_law 1047 = .ok (.iinc 3 1, 3) := by decide +kernel
theorem dL_law_1050 : decode cL_law 1050 = .ok (.goto (-1028), 3) := by decide +kernel
theorem dL_law_1053 : decode cL_law 1053 = .ok (.aload_n 2, 1) := by decide +kernel
theorem dL_law_1054 : decode cL_law 1054 = .ok (.aload_n 1, 1) := by decide +kernel
theorem dL_law_1055 : decode cL_law 1055 = .ok (.invokevirtual 167, 3) := by decide +kernel
theorem dL_law_1058 : decode cL_law 1058 = .ok (.ireturn, 1) := by decide +kernel
