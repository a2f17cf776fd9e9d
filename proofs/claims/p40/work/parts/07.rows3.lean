theorem dX1_words_33 : decode cX1_words 33 = .ok (.iconst 1, 1) := by decide +kernel
theorem dX1_words_34 : decode cX1_words 34 = .ok (.goto 4, 3) := by decide +kernel
theorem dX1_words_37 : decode cX1_words 37 = .ok (.iconst 0, 1) := by decide +kernel
theorem dX1_words_38 : decode cX1_words 38 = .ok (.iadd, 1) := by decide +kernel
theorem dX1_words_39 : decode cX1_words 39 = .ok (.istore_n 1, 1) := by decide +kernel
theorem dX1_words_40 : decode cX1_words 40 = .ok (.iinc 4 1, 3) := by decide +kernel
theorem dX1_words_43 : decode cX1_words 43 = .ok (.goto (-30), 3) := by decide +kernel
theorem dX1_words_46 : decode cX1_words 46 = .ok (.iload_n 1, 1) := by decide +kernel
theorem dX1_words_47 : decode cX1_words 47 = .ok (.anewarray 13, 3) := by decide +kernel
theorem dX1_words_50 : decode cX1_words 50 = .ok (.astore_n 2, 1) := by decide +kernel
theorem dX1_words_51 : decode cX1_words 51 = .ok (.iconst (-1), 1) := by decide +kernel
theorem dX1_words_52 : decode cX1_words 52 = .ok (.istore_n 3, 1) := by decide +kernel
theorem dX1_words_53 : decode cX1_words 53 = .ok (.iconst 0, 1) := by decide +kernel
theorem dX1_words_54 : decode cX1_words 54 = .ok (.istore 4, 2) := by decide +kernel
theorem dX1_words_56 : decode cX1_words 56 = .ok (.iload 4, 2) := by decide +kernel
theorem dX1_words_58 : decode cX1_words 58 = .ok (.aload_n 0, 1) := by decide +kernel
theorem dX1_words_59 : decode cX1_words 59 = .ok (.getfield 15, 3) := by decide +kernel
theorem dX1_words_62 : decode cX1_words 62 = .ok (.arraylength, 1) := by decide +kernel
theorem dX1_words_63 : decode cX1_words 63 = .ok (.if_icmp .ge 91, 3) := by decide +kernel
theorem dX1_words_66 : decode cX1_words 66 = .ok (.aload_n 0, 1) := by decide +kernel
theorem dX1_words_67 : decode cX1_words 67 = .ok (.getfield 15, 3) := by decide +kernel
theorem dX1_words_70 : decode cX1_words 70 = .ok (.iload 4, 2) := by decide +kernel
theorem dX1_words_72 : decode cX1_words 72 = .ok (.aaload, 1) := by decide +kernel
theorem dX1_words_73 : decode cX1_words 73 = .ok (.iconst 1, 1) := by decide +kernel
theorem dX1_words_74 : decode cX1_words 74 = .ok (.iaload, 1) := by decide +kernel
theorem dX1_words_75 : decode cX1_words 75 = .ok (.ifCond .lt 60, 3) := by decide +kernel
theorem dX1_words_78 : decode cX1_words 78 = .ok (.iinc 3 1, 3) := by decide +kernel
theorem dX1_words_81 : decode cX1_words 81 = .ok (.aload_n 2, 1) := by decide +kernel
theorem dX1_words_82 : decode cX1_words 82 = .ok (.iload_n 3, 1) := by decide +kernel
theorem dX1_words_83 : decode cX1_words 83 = .ok (.iconst 5, 1) := by decide +kernel
theorem dX1_words_84 : decode cX1_words 84 = .ok (.newarray .int, 2) := by decide +kernel
theorem dX1_words_86 : decode cX1_words 86 = .ok (.dup, 1) := by decide +kernel
theorem dX1_words_87 : decode cX1_words 87 = .ok (.iconst 0, 1) := by decide +kernel
theorem dX1_words_88 : decode cX1_words 88 = .ok (.aload_n 0, 1) := by decide +kernel
theorem dX1_words_89 : decode cX1_words 89 = .ok (.getfield 15, 3) := by decide +kernel
theorem dX1_words_92 : decode cX1_words 92 = .ok (.iload 4, 2) := by decide +kernel
theorem dX1_words_94 : decode cX1_words 94 = .ok (.aaload, 1) := by decide +kernel
theorem dX1_words_95 : decode cX1_words 95 = .ok (.iconst 0, 1) := by decide +kernel
theorem dX1_words_96 : decode cX1_words 96 = .ok (.iaload, 1) := by decide +kernel
theorem dX1_words_97 : decode cX1_words 97 = .ok (.iastore, 1) := by decide +kernel
theorem dX1_words_98 : decode cX1_words 98 = .ok (.dup, 1) := by decide +kernel
theorem dX1_words_99 : decode cX1_words 99 = .ok (.iconst 1, 1) := by decide +kernel
theorem dX1_words_100 : decode cX1_words 100 = .ok (.aload_n 0, 1) := by decide +kernel
theorem dX1_words_101 : decode cX1_words 101 = .ok (.getfield 15, 3) := by decide +kernel
theorem dX1_words_104 : decode cX1_words 104 = .ok (.iload 4, 2) := by decide +kernel
theorem dX1_words_106 : decode cX1_words 106 = .ok (.aaload, 1) := by decide +kernel
theorem dX1_words_107 : decode cX1_words 107 = .ok (.iconst 1, 1) := by decide +kernel
theorem dX1_words_108 : decode cX1_words 108 = .ok (.iaload, 1) := by decide +kernel
theorem dX1_words_109 : decode cX1_words 109 = .ok (.iastore, 1) := by decide +kernel
theorem dX1_words_110 : decode cX1_words 110 = .ok (.dup, 1) := by decide +kernel
theorem dX1_words_111 : decode cX1_words 111 = .ok (.iconst 2, 1) := by decide +kernel
theorem dX1_words_112 : decode cX1_words 112 = .ok (.iconst 0, 1) := by decide +kernel
theorem dX1_words_113 : decode cX1_words 113 = .ok (.iastore, 1) := by decide +kernel
theorem dX1_words_114 : decode cX1_words 114 = .ok (.dup, 1) := by decide +kernel
theorem dX1_words_115 : decode cX1_words 115 = .ok (.iconst 3, 1) := by decide +kernel
theorem dX1_words_116 : decode cX1_words 116 = .ok (.aload_n 0, 1) := by decide +kernel
theorem dX1_words_117 : decode cX1_words 117 = .ok (.getfield 15, 3) := by decide +kernel
theorem dX1_words_120 : decode cX1_words 120 = .ok (.iload 4, 2) := by decide +kernel
theorem dX1_words_122 : decode cX1_words 122 = .ok (.aaload, 1) := by decide +kernel
theorem dX1_words_123 : decode cX1_words 123 = .ok (.iconst 2, 1) := by decide +kernel
theorem dX1_words_124 : decode cX1_words 124 = .ok (.iaload, 1) := by decide +kernel
theorem dX1_words_125 : decode cX1_words 125 = .ok (.iastore, 1) := by decide +kernel
theorem dX1_words_126 : decode cX1_words 126 = .ok (.dup, 1) := by decide +kernel
theorem dX1_words_127 : decode cX1_words 127 = .ok (.iconst 4, 1) := by decide +kernel
theorem dX1_words_128 : decode cX1_words 128 = .ok (.iload 4, 2) := by decide +kernel
theorem dX1_words_130 : decode cX1_words 130 = .ok (.iastore, 1) := by decide +kernel
theorem dX1_words_131 : decode cX1_words 131 = .ok (.aastore, 1) := by decide +kernel
theorem dX1_words_132 : decode cX1_words 132 = .ok (.goto 16, 3) := by decide +kernel
theorem dX1_words_135 : decode cX1_words 135 = .ok (.iload_n 3, 1) := by decide +kernel
theorem dX1_words_136 : decode cX1_words 136 = .ok (.ifCond .lt 12, 3) := by decide +kernel
theorem dX1_words_139 : decode cX1_words 139 = .ok (.aload_n 2, 1) := by decide +kernel
theorem dX1_words_140 : decode cX1_words 140 = .ok (.iload_n 3, 1) := by decide +kernel
theorem dX1_words_141 : decode cX1_words 141 = .ok (.aaload, 1) := by decide +kernel
theorem dX1_words_142 : decode cX1_words 142 = .ok (.iconst 2, 1) := by decide +kernel
theorem dX1_words_143 : decode cX1_words 143 = .ok (.dup2, 1) := by decide +kernel
theorem dX1_words_144 : decode cX1_words 144 = .ok (.iaload, 1) := by decide +kernel
theorem dX1_words_145 : decode cX1_words 145 = .ok (.iconst 1, 1) := by decide +kernel
theorem dX1_words_146 : decode cX1_words 146 = .ok (.iadd, 1) := by decide +kernel
theorem dX1_words_147 : decode cX1_words 147 = .ok (.iastore, 1) := by decide +kernel
theorem dX1_words_148 : decode cX1_words 148 = .ok (.iinc 4 1, 3) := by decide +kernel
theorem dX1_words_151 : decode cX1_words 151 = .ok (.goto (-95), 3) := by decide +kernel
theorem dX1_words_154 : decode cX1_words 154 = .ok (.aload_n 2, 1) := by decide +kernel
theorem dX1_words_155 : decode cX1_words 155 = .ok (.areturn, 1) := by decide +kernel
theorem dX1_apart_0 : decode cX1_apart 0 = .ok (.iconst 0, 1) := by decide +kernel
theorem dX1_apart_1 : decode cX1_apart 1 = .ok (.istore_n 2, 1) := by decide +kernel
theorem dX1_apart_2 : decode cX1_apart 2 = .ok (.iload_n 0, 1) := by decide +kernel
theorem dX1_apart_3 : decode cX1_apart 3 = .ok (.iload_n 2, 1) := by decide +kernel
theorem dX1_apart_4 : decode cX1_apart 4 = .ok (.iadd, 1) := by decide +kernel
theorem dX1_apart_5 : decode cX1_apart 5 = .ok (.bipush 10, 2) := by decide +kernel
theorem dX1_apart_7 : decode cX1_apart 7 = .ok (.irem, 1) := by decide +kernel
theorem dX1_apart_8 : decode cX1_apart 8 = .ok (.iload_n 1, 1) := by decide +kernel
theorem dX1_apart_9 : decode cX1_apart 9 = .ok (.if_icmp .eq 19, 3) := by decide +kernel
theorem dX1_apart_12 : decode cX1_apart 12 = .ok (.iload_n 1, 1) := by decide +kernel
theorem dX1_apart_13 : decode cX1_apart 13 = .ok (.iload_n 2, 1) := by decide +kernel
theorem dX1_apart_14 : decode cX1_apart 14 = .ok (.iadd, 1) := by decide +kernel
theorem dX1_apart_15 : decode cX1_apart 15 = .ok (.bipush 10, 2) := by decide +kernel
theorem dX1_apart_17 : decode cX1_apart 17 = .ok (.irem, 1) := by decide +kernel
theorem dX1_apart_18 : decode cX1_apart 18 = .ok (.iload_n 0, 1) := by decide +kernel
theorem dX1_apart_19 : decode cX1_apart 19 = .ok (.if_icmp .eq 9, 3) := by decide +kernel
theorem dX1_apart_22 : decode cX1_apart 22 = .ok (.iinc 2 1, 3) := by decide +kernel
theorem dX1_apart_25 : decode cX1_apart 25 = .ok (.goto (-23), 3) := by decide +kernel
theorem dX1_apart_28 : decode cX1_apart 28 = .ok (.iload_n 2, 1) := by decide +kernel
theorem dX1_apart_29 : decode cX1_apart 29 = .ok (.ireturn, 1) := by decide +kernel
theorem dX1_sort_0 : decode cX1_sort 0 = .ok (.iload_n 2, 1) := by decide +kernel
theorem dX1_sort_1 : decode cX1_sort 1 = .ok (.ifCond .ne 8, 3) := by decide +kernel
theorem dX1_sort_4 : decode cX1_sort 4 = .ok (.iload_n 0, 1) := by decide +kernel
theorem dX1_sort_5 : decode cX1_sort 5 = .ok (.iconst 2, 1) := by decide +kernel
theorem dX1_sort_6 : decode cX1_sort 6 = .ok (.if_icmp .ge 5, 3) := by decide +kernel
theorem dX1_sort_9 : decode cX1_sort 9 = .ok (.iconst 0, 1) := by decide +kernel
theorem dX1_sort_10 : decode cX1_sort 10 = .ok (.ireturn, 1) := by decide +kernel
theorem dX1_sort_11 : decode cX1_sort 11 = .ok (.iload_n 0, 1) := by decide +kernel
theorem dX1_sort_12 : decode cX1_sort 12 = .ok (.iconst 2, 1) := by decide +kernel
theorem dX1_sort_13 : decode cX1_sort 13 = .ok (.if_icmp .eq 12, 3) := by decide +kernel
theorem dX1_sort_16 : decode cX1_sort 16 = .ok (.iload_n 1, 1) := by decide +kernel
theorem dX1_sort_17 : decode cX1_sort 17 = .ok (.ifCond .eq 12, 3) := by decide +kernel
theorem dX1_sort_20 : decode cX1_sort 20 = .ok (.iload_n 0, 1) := by decide +kernel
theorem dX1_sort_21 : decode cX1_sort 21 = .ok (.iconst 5, 1) := by decide +kernel
theorem dX1_sort_22 : decode cX1_sort 22 = .ok (.if_icmp .ge 7, 3) := by decide +kernel
theorem dX1_sort_25 : decode cX1_sort 25 = .ok (.iconst 1, 1) := by decide +kernel
theorem dX1_sort_26 : decode cX1_sort 26 = .ok (.goto 4, 3) := by decide +kernel
theorem dX1_sort_29 : decode cX1_sort 29 = .ok (.iconst 2, 1) := by decide +kernel
theorem dX1_sort_30 : decode cX1_sort 30 = .ok (.ireturn, 1) := by decide +kernel
set_option maxRecDepth 20000 in
theorem ggX1_strain_X1_apart : GoodIn wsX1_strain wsX1_apart := goodIn_r _ [4] (by decide +kernel) (by decide +kernel)
set_option maxRecDepth 20000 in
theorem gX1_strain_X1_apart : GoodIn wsX1_strain (va_wsS RX1 19 yX1_apart wsX1_apart) := goodIn_app (goodIn_of _ (by decide +kernel)) ggX1_strain_X1_apart
theorem dX1_strain_0 : decode cX1_strain 0 = .ok (.aload_n 0, 1) := by decide +kernel
theorem dX1_strain_1 : decode cX1_strain 1 = .ok (.iload_n 1, 1) := by decide +kernel
theorem dX1_strain_2 : decode cX1_strain 2 = .ok (.aaload, 1) := by decide +kernel
theorem dX1_strain_3 : decode cX1_strain 3 = .ok (.iconst 1, 1) := by decide +kernel
theorem dX1_strain_4 : decode cX1_strain 4 = .ok (.iaload, 1) := by decide +kernel
theorem dX1_strain_5 : decode cX1_strain 5 = .ok (.aload_n 0, 1) := by decide +kernel
theorem dX1_strain_6 : decode cX1_strain 6 = .ok (.iload_n 1, 1) := by decide +kernel
theorem dX1_strain_7 : decode cX1_strain 7 = .ok (.iconst 1, 1) := by decide +kernel
theorem dX1_strain_8 : decode cX1_strain 8 = .ok (.iadd, 1) := by decide +kernel
theorem dX1_strain_9 : decode cX1_strain 9 = .ok (.aaload, 1) := by decide +kernel
theorem dX1_strain_10 : decode cX1_strain 10 = .ok (.iconst 1, 1) := by decide +kernel
theorem dX1_strain_11 : decode cX1_strain 11 = .ok (.iaload, 1) := by decide +kernel
theorem dX1_strain_12 : decode cX1_strain 12 = .ok (.invokestatic 19, 3) := by decide +kernel
theorem dX1_strain_15 : decode cX1_strain 15 = .ok (.aload_n 0, 1) := by decide +kernel
theorem dX1_strain_16 : decode cX1_strain 16 = .ok (.iload_n 1, 1) := by decide +kernel
theorem dX1_strain_17 : decode cX1_strain 17 = .ok (.aaload, 1) := by decide +kernel
theorem dX1_strain_18 : decode cX1_strain 18 = .ok (.iconst 2, 1) := by decide +kernel
theorem dX1_strain_19 : decode cX1_strain 19 = .ok (.iaload, 1) := by decide +kernel
theorem dX1_strain_20 : decode cX1_strain 20 = .ok (.iadd, 1) := by decide +kernel
theorem dX1_strain_21 : decode cX1_strain 21 = .ok (.ireturn, 1) := by decide +kernel
set_option maxRecDepth 20000 in
theorem ggX1_sort__X1_strain : GoodIn wsX1_sort_ wsX1_strain := goodIn_r _ [4, 5, 6, 3, 7] (by decide +kernel) (by decide +kernel)
set_option maxRecDepth 20000 in
theorem gX1_sort__X1_strain : GoodIn wsX1_sort_ (va_wsS RX1 23 yX1_strain wsX1_strain) := goodIn_app (goodIn_of _ (by decide +kernel)) ggX1_sort__X1_strain
set_option maxRecDepth 20000 in
theorem ggX1_sort__X1_sort : GoodIn wsX1_sort_ wsX1_sort := goodIn_r _ [10] (by decide +kernel) (by decide +kernel)
set_option maxRecDepth 20000 in
theorem gX1_sort__X1_sort : GoodIn wsX1_sort_ (va_wsS RX1 27 yX1_sort wsX1_sort) := goodIn_app (goodIn_of _ (by decide +kernel)) ggX1_sort__X1_sort
theorem dX1_sort__0 : decode cX1_sort_ 0 = .ok (.aload_n 0, 1) := by decide +kernel
theorem dX1_sort__1 : decode cX1_sort_ 1 = .ok (.iload_n 1, 1) := by decide +kernel
theorem dX1_sort__2 : decode cX1_sort_ 2 = .ok (.invokestatic 23, 3) := by decide +kernel
theorem dX1_sort__5 : decode cX1_sort_ 5 = .ok (.aload_n 0, 1) := by decide +kernel
theorem dX1_sort__6 : decode cX1_sort_ 6 = .ok (.iload_n 1, 1) := by decide +kernel
theorem dX1_sort__7 : decode cX1_sort_ 7 = .ok (.aaload, 1) := by decide +kernel
theorem dX1_sort__8 : decode cX1_sort_ 8 = .ok (.iconst 0, 1) := by decide +kernel
theorem dX1_sort__9 : decode cX1_sort_ 9 = .ok (.iaload, 1) := by decide +kernel
theorem dX1_sort__10 : decode cX1_sort_ 10 = .ok (.aload_n 0, 1) := by decide +kernel
theorem dX1_sort__11 : decode cX1_sort_ 11 = .ok (.iload_n 1, 1) := by decide +kernel
theorem dX1_sort__12 : decode cX1_sort_ 12 = .ok (.iconst 1, 1) := by decide +kernel
theorem dX1_sort__13 : decode cX1_sort_ 13 = .ok (.iadd, 1) := by decide +kernel
theorem dX1_sort__14 : decode cX1_sort_ 14 = .ok (.aaload, 1) := by decide +kernel
theorem dX1_sort__15 : decode cX1_sort_ 15 = .ok (.iconst 0, 1) := by decide +kernel
theorem dX1_sort__16 : decode cX1_sort_ 16 = .ok (.iaload, 1) := by decide +kernel
theorem dX1_sort__17 : decode cX1_sort_ 17 = .ok (.if_icmp .ne 7, 3) := by decide +kernel
theorem dX1_sort__20 : decode cX1_sort_ 20 = .ok (.iconst 1, 1) := by decide +kernel
theorem dX1_sort__21 : decode cX1_sort_ 21 = .ok (.goto 4, 3) := by decide +kernel
theorem dX1_sort__24 : decode cX1_sort_ 24 = .ok (.iconst 0, 1) := by decide +kernel
theorem dX1_sort__25 : decode cX1_sort_ 25 = .ok (.aload_n 0, 1) := by decide +kernel
theorem dX1_sort__26 : decode cX1_sort_ 26 = .ok (.iload_n 1, 1) := by decide +kernel
theorem dX1_sort__27 : decode cX1_sort_ 27 = .ok (.aaload, 1) := by decide +kernel
theorem dX1_sort__28 : decode cX1_sort_ 28 = .ok (.iconst 3, 1) := by decide +kernel
theorem dX1_sort__29 : decode cX1_sort_ 29 = .ok (.iaload, 1) := by decide +kernel
theorem dX1_sort__30 : decode cX1_sort_ 30 = .ok (.iconst 1, 1) := by decide +kernel
theorem dX1_sort__31 : decode cX1_sort_ 31 = .ok (.if_icmp .ne 7, 3) := by decide +kernel
theorem dX1_sort__34 : decode cX1_sort_ 34 = .ok (.iconst 1, 1) := by decide +kernel
theorem dX1_sort__35 : decode cX1_sort_ 35 = .ok (.goto 4, 3) := by decide +kernel
theorem dX1_sort__38 : decode cX1_sort_ 38 = .ok (.iconst 0, 1) := by decide +kernel
theorem dX1_sort__39 : decode cX1_sort_ 39 = .ok (.invokestatic 27, 3) := by decide +kernel
theorem dX1_sort__42 : decode cX1_sort_ 42 = .ok (.ireturn, 1) := by decide +kernel
set_option maxRecDepth 20000 in
theorem ggX1_broken_X1_sort_ : GoodIn wsX1_broken wsX1_sort_ := goodIn_r _ [4, 5, 6, 3, 7, 8, 9, 10, 11, 12, 13] (by decide +kernel) (by decide +kernel)
set_option maxRecDepth 20000 in
theorem gX1_broken_X1_sort_ : GoodIn wsX1_broken (va_wsS RX1 31 yX1_sort_ wsX1_sort_) := goodIn_app (goodIn_of _ (by decide +kernel)) ggX1_broken_X1_sort_
theorem dX1_broken_0 : decode cX1_broken 0 = .ok (.iconst 0, 1) := by decide +kernel
theorem dX1_broken_1 : decode cX1_broken 1 = .ok (.istore_n 1, 1) := by decide +kernel
theorem dX1_broken_2 : decode cX1_broken 2 = .ok (.iconst 0, 1) := by decide +kernel
theorem dX1_broken_3 : decode cX1_broken 3 = .ok (.istore_n 2, 1) := by decide +kernel
theorem dX1_broken_4 : decode cX1_broken 4 = .ok (.iload_n 2, 1) := by decide +kernel
theorem dX1_broken_5 : decode cX1_broken 5 = .ok (.iconst 1, 1) := by decide +kernel
theorem dX1_broken_6 : decode cX1_broken 6 = .ok (.iadd, 1) := by decide +kernel
theorem dX1_broken_7 : decode cX1_broken 7 = .ok (.aload_n 0, 1) := by decide +kernel
theorem dX1_broken_8 : decode cX1_broken 8 = .ok (.arraylength, 1) := by decide +kernel
theorem dX1_broken_9 : decode cX1_broken 9 = .ok (.if_icmp .ge 26, 3) := by decide +kernel
theorem dX1_broken_12 : decode cX1_broken 12 = .ok (.iload_n 1, 1) := by decide +kernel
theorem dX1_broken_13 : decode cX1_broken 13 = .ok (.aload_n 0, 1) := by decide +kernel
theorem dX1_broken_14 : decode cX1_broken 14 = .ok (.iload_n 2, 1) := by decide +kernel
theorem dX1_broken_15 : decode cX1_broken 15 = .ok (.invokestatic 31, 3) := by decide +kernel
theorem dX1_broken_18 : decode cX1_broken 18 = .ok (.iconst 2, 1) := by decide +kernel
theorem dX1_broken_19 : decode cX1_broken 19 = .ok (.if_icmp .ne 7, 3) := by decide +kernel
theorem dX1_broken_22 : decode cX1_broken 22 = .ok (.iconst 1, 1) := by decide +kernel
theorem dX1_broken_23 : decode cX1_broken 23 = .ok (.goto 4, 3) := by decide +kernel
theorem dX1_broken_26 : decode cX1_broken 26 = .ok (.iconst 0, 1) := by decide +kernel
theorem dX1_broken_27 : decode cX1_broken 27 = .ok (.iadd, 1) := by decide +kernel
theorem dX1_broken_28 : decode cX1_broken 28 = .ok (.istore_n 1, 1) := by decide +kernel
theorem dX1_broken_29 : decode cX1_broken 29 = .ok (.iinc 2 1, 3) := by decide +kernel
theorem dX1_broken_32 : decode cX1_broken 32 = .ok (.goto (-28), 3) := by decide +kernel
theorem dX1_broken_35 : decode cX1_broken 35 = .ok (.iload_n 1, 1) := by decide +kernel
theorem dX1_broken_36 : decode cX1_broken 36 = .ok (.ireturn, 1) := by decide +kernel
theorem dX1_insert_0 : decode cX1_insert 0 = .ok (.aload_n 0, 1) := by decide +kernel
theorem dX1_insert_1 : decode cX1_insert 1 = .ok (.getfield 15, 3) := by decide +kernel
theorem dX1_insert_4 : decode cX1_insert 4 = .ok (.arraylength, 1) := by decide +kernel
theorem dX1_insert_5 : decode cX1_insert 5 = .ok (.iconst 1, 1) := by decide +kernel
theorem dX1_insert_6 : decode cX1_insert 6 = .ok (.iadd, 1) := by decide +kernel
theorem dX1_insert_7 : decode cX1_insert 7 = .ok (.anewarray 13, 3) := by decide +kernel
theorem dX1_insert_10 : decode cX1_insert 10 = .ok (.astore_n 3, 1) := by decide +kernel
theorem dX1_insert_11 : decode cX1_insert 11 = .ok (.iconst 0, 1) := by decide +kernel
theorem dX1_insert_12 : decode cX1_insert 12 = .ok (.istore 4, 2) := by decide +kernel
theorem dX1_insert_14 : decode cX1_insert 14 = .ok (.iload 4, 2) := by decide +kernel
theorem dX1_insert_16 : decode cX1_insert 16 = .ok (.aload_n 3, 1) := by decide +kernel
theorem dX1_insert_17 : decode cX1_insert 17 = .ok (.arraylength, 1) := by decide +kernel
theorem dX1_insert_18 : decode cX1_insert 18 = .ok (.if_icmp .ge 48, 3) := by decide +kernel
theorem dX1_insert_21 : decode cX1_insert 21 = .ok (.aload_n 3, 1) := by decide +kernel
theorem dX1_insert_22 : decode cX1_insert 22 = .ok (.iload 4, 2) := by decide +kernel
theorem dX1_insert_24 : decode cX1_insert 24 = .ok (.iload 4, 2) := by decide +kernel
theorem dX1_insert_26 : decode cX1_insert 26 = .ok (.iload_n 1, 1) := by decide +kernel
theorem dX1_insert_27 : decode cX1_insert 27 = .ok (.if_icmp .ge 13, 3) := by decide +kernel
theorem dX1_insert_30 : decode cX1_insert 30 = .ok (.aload_n 0, 1) := by decide +kernel
theorem dX1_insert_31 : decode cX1_insert 31 = .ok (.getfield 15, 3) := by decide +kernel
theorem dX1_insert_34 : decode cX1_insert 34 = .ok (.iload 4, 2) := by decide +kernel
theorem dX1_insert_36 : decode cX1_insert 36 = .ok (.aaload, 1) := by decide +kernel
theorem dX1_insert_37 : decode cX1_insert 37 = .ok (.goto 22, 3) := by decide +kernel
theorem dX1_insert_40 : decode cX1_insert 40 = .ok (.iload 4, 2) := by decide +kernel
theorem dX1_insert_42 : decode cX1_insert 42 = .ok (.iload_n 1, 1) := by decide +kernel
theorem dX1_insert_43 : decode cX1_insert 43 = .ok (.if_icmp .ne 7, 3) := by decide +kernel
theorem dX1_insert_46 : decode cX1_insert 46 = .ok (.aload_n 2, 1) := by decide +kernel
theorem dX1_insert_47 : decode cX1_insert 47 = .ok (.goto 12, 3) := by decide +kernel
theorem dX1_insert_50 : decode cX1_insert 50 = .ok (.aload_n 0, 1) := by decide +kernel
theorem dX1_insert_51 : decode cX1_insert 51 = .ok (.getfield 15, 3) := by decide +kernel
theorem dX1_insert_54 : decode cX1_insert 54 = .ok (.iload 4, 2) := by decide +kernel
theorem dX1_insert_56 : decode cX1_insert 56 = .ok (.iconst 1, 1) := by decide +kernel
theorem dX1_insert_57 : decode cX1_insert 57 = .ok (.isub, 1) := by decide +kernel
theorem dX1_insert_58 : decode cX1_insert 58 = .ok (.aaload, 1) := by decide +kernel
theorem dX1_insert_59 : decode cX1_insert 59 = .ok (.aastore, 1) := by decide +kernel
theorem dX1_insert_60 : decode cX1_insert 60 = .ok (.iinc 4 1, 3) := by decide +kernel
theorem dX1_insert_63 : decode cX1_insert 63 = .ok (.goto (-49), 3) := by decide +kernel
theorem dX1_insert_66 : decode cX1_insert 66 = .ok (.aload_n 0, 1) := by decide +kernel
theorem dX1_insert_67 : decode cX1_insert 67 = .ok (.aload_n 3, 1) := by decide +kernel
theorem dX1_insert_68 : decode cX1_insert 68 = .ok (.putfield 15, 3) := by decide +kernel
theorem dX1_insert_71 : decode cX1_insert 71 = .ok (.return_, 1) := by decide +kernel
theorem dX1_remove_0 : decode cX1_remove 0 = .ok (.aload_n 0, 1) := by decide +kernel
theorem dX1_remove_1 : decode cX1_remove 1 = .ok (.getfield 15, 3) := by decide +kernel
theorem dX1_remove_4 : decode cX1_remove 4 = .ok (.arraylength, 1) := by decide +kernel
theorem dX1_remove_5 : decode cX1_remove 5 = .ok (.iconst 1, 1) := by decide +kernel
theorem dX1_remove_6 : decode cX1_remove 6 = .ok (.isub, 1) := by decide +kernel
theorem dX1_remove_7 : decode cX1_remove 7 = .ok (.anewarray 13, 3) := by decide +kernel
theorem dX1_remove_10 : decode cX1_remove 10 = .ok (.astore_n 2, 1) := by decide +kernel
theorem dX1_remove_11 : decode cX1_remove 11 = .ok (.iconst 0, 1) := by decide +kernel
theorem dX1_remove_12 : decode cX1_remove 12 = .ok (.istore_n 3, 1) := by decide +kernel
theorem dX1_remove_13 : decode cX1_remove 13 = .ok (.iload_n 3, 1) := by decide +kernel
theorem dX1_remove_14 : decode cX1_remove 14 = .ok (.aload_n 2, 1) := by decide +kernel
theorem dX1_remove_15 : decode cX1_remove 15 = .ok (.arraylength, 1) := by decide +kernel
theorem dX1_remove_16 : decode cX1_remove 16 = .ok (.if_icmp .ge 29, 3) := by decide +kernel
theorem dX1_remove_19 : decode cX1_remove 19 = .ok (.aload_n 2, 1) := by decide +kernel
theorem dX1_remove_20 : decode cX1_remove 20 = .ok (.iload_n 3, 1) := by decide +kernel
theorem dX1_remove_21 : decode cX1_remove 21 = .ok (.aload_n 0, 1) := by decide +kernel
theorem dX1_remove_22 : decode cX1_remove 22 = .ok (.getfield 15, 3) := by decide +kernel
theorem dX1_remove_25 : decode cX1_remove 25 = .ok (.iload_n 3, 1) := by decide +kernel
theorem dX1_remove_26 : decode cX1_remove 26 = .ok (.iload_n 1, 1) := by decide +kernel
theorem dX1_remove_27 : decode cX1_remove 27 = .ok (.if_icmp .ge 7, 3) := by decide +kernel
theorem dX1_remove_30 : decode cX1_remove 30 = .ok (.iload_n 3, 1) := by decide +kernel
theorem dX1_remove_31 : decode cX1_remove 31 = .ok (.goto 6, 3) := by decide +kernel
theorem dX1_remove_34 : decode cX1_remove 34 = .ok (.iload_n 3, 1) := by decide +kernel
theorem dX1_remove_35 : decode cX1_remove 35 = .ok (.iconst 1, 1) := by decide +kernel
theorem dX1_remove_36 : decode cX1_remove 36 = .ok (.iadd, 1) := by decide +kernel
theorem dX1_remove_37 : decode cX1_remove 37 = .ok (.aaload, 1) := by decide +kernel
theorem dX1_remove_38 : decode cX1_remove 38 = .ok (.aastore, 1) := by decide +kernel
theorem dX1_remove_39 : decode cX1_remove 39 = .ok (.iinc 3 1, 3) := by decide +kernel
theorem dX1_remove_42 : decode cX1_remove 42 = .ok (.goto (-29), 3) := by decide +kernel
theorem dX1_remove_45 : decode cX1_remove 45 = .ok (.aload_n 0, 1) := by decide +kernel
theorem dX1_remove_46 : decode cX1_remove 46 = .ok (.aload_n 2, 1) := by decide +kernel
theorem dX1_remove_47 : decode cX1_remove 47 = .ok (.putfield 15, 3) := by decide +kernel
theorem dX1_remove_50 : decode cX1_remove 50 = .ok (.return_, 1) := by decide +kernel
set_option maxRecDepth 20000 in
theorem ggX1_between_X1_apart : GoodIn wsX1_between wsX1_apart := goodIn_r _ [4] (by decide +kernel) (by decide +kernel)
set_option maxRecDepth 20000 in
theorem gX1_between_X1_apart : GoodIn wsX1_between (va_wsS RX1 19 yX1_apart wsX1_apart) := goodIn_app (goodIn_of _ (by decide +kernel)) ggX1_between_X1_apart
theorem dX1_between_0 : decode cX1_between 0 = .ok (.iload_n 0, 1) := by decide +kernel
theorem dX1_between_1 : decode cX1_between 1 = .ok (.iload_n 1, 1) := by decide +kernel
theorem dX1_between_2 : decode cX1_between 2 = .ok (.invokestatic 19, 3) := by decide +kernel
theorem dX1_between_5 : decode cX1_between 5 = .ok (.istore_n 2, 1) := by decide +kernel
theorem dX1_between_6 : decode cX1_between 6 = .ok (.iload_n 0, 1) := by decide +kernel
theorem dX1_between_7 : decode cX1_between 7 = .ok (.iload_n 2, 1) := by decide +kernel
theorem dX1_between_8 : decode cX1_between 8 = .ok (.iadd, 1) := by decide +kernel
theorem dX1_between_9 : decode cX1_between 9 = .ok (.bipush 10, 2) := by decide +kernel
theorem dX1_between_11 : decode cX1_between 11 = .ok (.irem, 1) := by decide +kernel
theorem dX1_between_12 : decode cX1_between 12 = .ok (.iload_n 1, 1) := by decide +kernel
theorem dX1_between_13 : decode cX1_between 13 = .ok (.if_icmp .ne 7, 3) := by decide +kernel
theorem dX1_between_16 : decode cX1_between 16 = .ok (.iconst 1, 1) := by decide +kernel
theorem dX1_between_17 : decode cX1_between 17 = .ok (.goto 5, 3) := by decide +kernel
theorem dX1_between_20 : decode cX1_between 20 = .ok (.bipush 9, 2) := by decide +kernel
theorem dX1_between_22 : decode cX1_between 22 = .ok (.istore_n 3, 1) := by decide +kernel
theorem dX1_between_23 : decode cX1_between 23 = .ok (.iload_n 0, 1) := by decide +kernel
theorem dX1_between_24 : decode cX1_between 24 = .ok (.istore 4, 2) := by decide +kernel
theorem dX1_between_26 : decode cX1_between 26 = .ok (.iconst 0, 1) := by decide +kernel
theorem dX1_between_27 : decode cX1_between 27 = .ok (.istore 5, 2) := by decide +kernel
theorem dX1_between_29 : decode cX1_between 29 = .ok (.iload 5, 2) := by decide +kernel
theorem dX1_between_31 : decode cX1_between 31 = .ok (.iload_n 2, 1) := by decide +kernel
theorem dX1_between_32 : decode cX1_between 32 = .ok (.iconst 2, 1) := by decide +kernel
theorem dX1_between_33 : decode cX1_between 33 = .ok (.idiv, 1) := by decide +kernel
theorem dX1_between_34 : decode cX1_between 34 = .ok (.if_icmp .ge 18, 3) := by decide +kernel
theorem dX1_between_37 : decode cX1_between 37 = .ok (.iload 4, 2) := by decide +kernel
theorem dX1_between_39 : decode cX1_between 39 = .ok (.iload_n 3, 1) := by decide +kernel
theorem dX1_between_40 : decode cX1_between 40 = .ok (.iadd, 1) := by decide +kernel
theorem dX1_between_41 : decode cX1_between 41 = .ok (.bipush 10, 2) := by decide +kernel
theorem dX1_between_43 : decode cX1_between 43 = .ok (.irem, 1) := by decide +kernel
theorem dX1_between_44 : decode cX1_between 44 = .ok (.istore 4, 2) := by decide +kernel
theorem dX1_between_46 : decode cX1_between 46 = .ok (.iinc 5 1, 3) := by decide +kernel
theorem dX1_between_49 : decode cX1_between 49 = .ok (.goto (-20), 3) := by decide +kernel
theorem dX1_between_52 : decode cX1_between 52 = .ok (.iload 4, 2) := by decide +kernel
theorem dX1_between_54 : decode cX1_between 54 = .ok (.ireturn, 1) := by decide +kernel
set_option maxRecDepth 20000 in
theorem ggX1_splice_X1_words : GoodIn wsX1_splice wsX1_words := goodIn_r _ [6, 7, 8, 1, 19, 20, 21] (by decide +kernel) (by decide +kernel)
set_option maxRecDepth 20000 in
theorem gX1_splice_X1_words : GoodIn wsX1_splice (wsV RX1 33 RX1 yX1_words wsX1_words) := goodIn_app (goodIn_of _ (by decide +kernel)) ggX1_splice_X1_words
set_option maxRecDepth 20000 in
theorem ggX1_splice_X1_between : GoodIn wsX1_splice wsX1_between := goodIn_r _ [11, 12, 13, 5, 14] (by decide +kernel) (by decide +kernel)
set_option maxRecDepth 20000 in
theorem gX1_splice_X1_between : GoodIn wsX1_splice (va_wsS RX1 37 yX1_between wsX1_between) := goodIn_app (goodIn_of _ (by decide +kernel)) ggX1_splice_X1_between
set_option maxRecDepth 20000 in
theorem ggX1_splice_X1_insert : GoodIn wsX1_splice wsX1_insert := goodIn_r _ [18, 7, 8, 19, 20, 21] (by decide +kernel) (by decide +kernel)
set_option maxRecDepth 20000 in
theorem gX1_splice_X1_insert : GoodIn wsX1_splice (wsV RX1 40 RX1 yX1_insert wsX1_insert) := goodIn_app (goodIn_of _ (by decide +kernel)) ggX1_splice_X1_insert
theorem dX1_splice_0 : decode cX1_splice 0 = .ok (.aload_n 0, 1) := by decide +kernel
theorem dX1_splice_1 : decode cX1_splice 1 = .ok (.invokevirtual 33, 3) := by decide +kernel
theorem dX1_splice_4 : decode cX1_splice 4 = .ok (.astore_n 2, 1) := by decide +kernel
theorem dX1_splice_5 : decode cX1_splice 5 = .ok (.aload_n 2, 1) := by decide +kernel
theorem dX1_splice_6 : decode cX1_splice 6 = .ok (.iload_n 1, 1) := by decide +kernel
theorem dX1_splice_7 : decode cX1_splice 7 = .ok (.aaload, 1) := by decide +kernel
theorem dX1_splice_8 : decode cX1_splice 8 = .ok (.iconst 1, 1) := by decide +kernel
theorem dX1_splice_9 : decode cX1_splice 9 = .ok (.iaload, 1) := by decide +kernel
theorem dX1_splice_10 : decode cX1_splice 10 = .ok (.aload_n 2, 1) := by decide +kernel
theorem dX1_splice_11 : decode cX1_splice 11 = .ok (.iload_n 1, 1) := by decide +kernel
theorem dX1_splice_12 : decode cX1_splice 12 = .ok (.iconst 1, 1) := by decide +kernel
theorem dX1_splice_13 : decode cX1_splice 13 = .ok (.iadd, 1) := by decide +kernel
theorem dX1_splice_14 : decode cX1_splice 14 = .ok (.aaload, 1) := by decide +kernel
theorem dX1_splice_15 : decode cX1_splice 15 = .ok (.iconst 1, 1) := by decide +kernel
theorem dX1_splice_16 : decode cX1_splice 16 = .ok (.iaload, 1) := by decide +kernel
theorem dX1_splice_17 : decode cX1_splice 17 = .ok (.invokestatic 37, 3) := by decide +kernel
theorem dX1_splice_20 : decode cX1_splice 20 = .ok (.istore_n 3, 1) := by decide +kernel
theorem dX1_splice_21 : decode cX1_splice 21 = .ok (.aload_n 0, 1) := by decide +kernel
theorem dX1_splice_22 : decode cX1_splice 22 = .ok (.aload_n 2, 1) := by decide +kernel
theorem dX1_splice_23 : decode cX1_splice 23 = .ok (.iload_n 1, 1) := by decide +kernel
theorem dX1_splice_24 : decode cX1_splice 24 = .ok (.aaload, 1) := by decide +kernel
theorem dX1_splice_25 : decode cX1_splice 25 = .ok (.iconst 4, 1) := by decide +kernel
theorem dX1_splice_26 : decode cX1_splice 26 = .ok (.iaload, 1) := by decide +kernel
theorem dX1_splice_27 : decode cX1_splice 27 = .ok (.iconst 1, 1) := by decide +kernel
theorem dX1_splice_28 : decode cX1_splice 28 = .ok (.iadd, 1) := by decide +kernel
theorem dX1_splice_29 : decode cX1_splice 29 = .ok (.iconst 3, 1) := by decide +kernel
theorem dX1_splice_30 : decode cX1_splice 30 = .ok (.newarray .int, 2) := by decide +kernel
theorem dX1_splice_32 : decode cX1_splice 32 = .ok (.dup, 1) := by decide +kernel
theorem dX1_splice_33 : decode cX1_splice 33 = .ok (.iconst 0, 1) := by decide +kernel
theorem dX1_splice_34 : decode cX1_splice 34 = .ok (.aload_n 2, 1) := by decide +kernel
theorem dX1_splice_35 : decode cX1_splice 35 = .ok (.iload_n 1, 1) := by decide +kernel
theorem dX1_splice_36 : decode cX1_splice 36 = .ok (.aaload, 1) := by decide +kernel
theorem dX1_splice_37 : decode cX1_splice 37 = .ok (.iconst 0, 1) := by decide +kernel
theorem dX1_splice_38 : decode cX1_splice 38 = .ok (.iaload, 1) := by decide +kernel
theorem dX1_splice_39 : decode cX1_splice 39 = .ok (.iastore, 1) := by decide +kernel
theorem dX1_splice_40 : decode cX1_splice 40 = .ok (.dup, 1) := by decide +kernel
theorem dX1_splice_41 : decode cX1_splice 41 = .ok (.iconst 1, 1) := by decide +kernel
theorem dX1_splice_42 : decode cX1_splice 42 = .ok (.iload_n 3, 1) := by decide +kernel
theorem dX1_splice_43 : decode cX1_splice 43 = .ok (.iastore, 1) := by decide +kernel
theorem dX1_splice_44 : decode cX1_splice 44 = .ok (.dup, 1) := by decide +kernel
theorem dX1_splice_45 : decode cX1_splice 45 = .ok (.iconst 2, 1) := by decide +kernel
theorem dX1_splice_46 : decode cX1_splice 46 = .ok (.iconst 0, 1) := by decide +kernel
theorem dX1_splice_47 : decode cX1_splice 47 = .ok (.iastore, 1) := by decide +kernel
theorem dX1_splice_48 : decode cX1_splice 48 = .ok (.invokevirtual 40, 3) := by decide +kernel
theorem dX1_splice_51 : decode cX1_splice 51 = .ok (.iload_n 3, 1) := by decide +kernel
theorem dX1_splice_52 : decode cX1_splice 52 = .ok (.ireturn, 1) := by decide +kernel
set_option maxRecDepth 20000 in
theorem ggX1_mends_X1_sort_ : GoodIn wsX1_mends wsX1_sort_ := goodIn_r _ [4, 5, 6, 3, 7, 8, 9, 10, 11, 12, 13] (by decide +kernel) (by decide +kernel)
set_option maxRecDepth 20000 in
theorem gX1_mends_X1_sort_ : GoodIn wsX1_mends (va_wsS RX1 31 yX1_sort_ wsX1_sort_) := goodIn_app (goodIn_of _ (by decide +kernel)) ggX1_mends_X1_sort_
set_option maxRecDepth 20000 in
theorem ggX1_mends_X1_strain : GoodIn wsX1_mends wsX1_strain := goodIn_r _ [7, 8, 9, 3, 10] (by decide +kernel) (by decide +kernel)
set_option maxRecDepth 20000 in
theorem gX1_mends_X1_strain : GoodIn wsX1_mends (va_wsS RX1 23 yX1_strain wsX1_strain) := goodIn_app (goodIn_of _ (by decide +kernel)) ggX1_mends_X1_strain
set_option maxRecDepth 20000 in
theorem ggX1_mends_X1_sort : GoodIn wsX1_mends wsX1_sort := goodIn_r _ [13] (by decide +kernel) (by decide +kernel)
set_option maxRecDepth 20000 in
theorem gX1_mends_X1_sort : GoodIn wsX1_mends (va_wsS RX1 27 yX1_sort wsX1_sort) := goodIn_app (goodIn_of _ (by decide +kernel)) ggX1_mends_X1_sort
theorem dX1_mends_0 : decode cX1_mends 0 = .ok (.aload_n 1, 1) := by decide +kernel
theorem dX1_mends_1 : decode cX1_mends 1 = .ok (.iload_n 2, 1) := by decide +kernel
theorem dX1_mends_2 : decode cX1_mends 2 = .ok (.invokestatic 31, 3) := by decide +kernel
theorem dX1_mends_5 : decode cX1_mends 5 = .ok (.iconst 2, 1) := by decide +kernel
theorem dX1_mends_6 : decode cX1_mends 6 = .ok (.if_icmp .ge 5, 3) := by decide +kernel
theorem dX1_mends_9 : decode cX1_mends 9 = .ok (.iconst 0, 1) := by decide +kernel
theorem dX1_mends_10 : decode cX1_mends 10 = .ok (.ireturn, 1) := by decide +kernel
theorem dX1_mends_11 : decode cX1_mends 11 = .ok (.iconst 1, 1) := by decide +kernel
theorem dX1_mends_12 : decode cX1_mends 12 = .ok (.istore_n 3, 1) := by decide +kernel
theorem dX1_mends_13 : decode cX1_mends 13 = .ok (.iload_n 3, 1) := by decide +kernel
theorem dX1_mends_14 : decode cX1_mends 14 = .ok (.iconst 3, 1) := by decide +kernel
theorem dX1_mends_15 : decode cX1_mends 15 = .ok (.if_icmp .ge 55, 3) := by decide +kernel
theorem dX1_mends_18 : decode cX1_mends 18 = .ok (.iload_n 3, 1) := by decide +kernel
theorem dX1_mends_19 : decode cX1_mends 19 = .ok (.aload_n 1, 1) := by decide +kernel
theorem dX1_mends_20 : decode cX1_mends 20 = .ok (.iload_n 2, 1) := by decide +kernel
theorem dX1_mends_21 : decode cX1_mends 21 = .ok (.aaload, 1) := by decide +kernel
theorem dX1_mends_22 : decode cX1_mends 22 = .ok (.iconst 2, 1) := by decide +kernel
theorem dX1_mends_23 : decode cX1_mends 23 = .ok (.iaload, 1) := by decide +kernel
theorem dX1_mends_24 : decode cX1_mends 24 = .ok (.if_icmp .gt 46, 3) := by decide +kernel
theorem dX1_mends_27 : decode cX1_mends 27 = .ok (.aload_n 1, 1) := by decide +kernel
theorem dX1_mends_28 : decode cX1_mends 28 = .ok (.iload_n 2, 1) := by decide +kernel
theorem dX1_mends_29 : decode cX1_mends 29 = .ok (.invokestatic 23, 3) := by decide +kernel
theorem dX1_mends_32 : decode cX1_mends 32 = .ok (.iload_n 3, 1) := by decide +kernel
theorem dX1_mends_33 : decode cX1_mends 33 = .ok (.isub, 1) := by decide +kernel
theorem dX1_mends_34 : decode cX1_mends 34 = .ok (.aload_n 1, 1) := by decide +kernel
theorem dX1_mends_35 : decode cX1_mends 35 = .ok (.iload_n 2, 1) := by decide +kernel
theorem dX1_mends_36 : decode cX1_mends 36 = .ok (.aaload, 1) := by decide +kernel
theorem dX1_mends_37 : decode cX1_mends 37 = .ok (.iconst 0, 1) := by decide +kernel
theorem dX1_mends_38 : decode cX1_mends 38 = .ok (.iaload, 1) := by decide +kernel
theorem dX1_mends_39 : decode cX1_mends 39 = .ok (.aload_n 1, 1) := by decide +kernel
theorem dX1_mends_40 : decode cX1_mends 40 = .ok (.iload_n 2, 1) := by decide +kernel
theorem dX1_mends_41 : decode cX1_mends 41 = .ok (.iconst 1, 1) := by decide +kernel
theorem dX1_mends_42 : decode cX1_mends 42 = .ok (.iadd, 1) := by decide +kernel
theorem dX1_mends_43 : decode cX1_mends 43 = .ok (.aaload, 1) := by decide +kernel
theorem dX1_mends_44 : decode cX1_mends 44 = .ok (.iconst 0, 1) := by decide +kernel
theorem dX1_mends_45 : decode cX1_mends 45 = .ok (.iaload, 1) := by decide +kernel
theorem dX1_mends_46 : decode cX1_mends 46 = .ok (.if_icmp .ne 7, 3) := by decide +kernel
theorem dX1_mends_49 : decode cX1_mends 49 = .ok (.iconst 1, 1) := by decide +kernel
theorem dX1_mends_50 : decode cX1_mends 50 = .ok (.goto 4, 3) := by decide +kernel
theorem dX1_mends_53 : decode cX1_mends 53 = .ok (.iconst 0, 1) := by decide +kernel
theorem dX1_mends_54 : decode cX1_mends 54 = .ok (.iconst 0, 1) := by decide +kernel
theorem dX1_mends_55 : decode cX1_mends 55 = .ok (.invokestatic 27, 3) := by decide +kernel
theorem dX1_mends_58 : decode cX1_mends 58 = .ok (.iconst 2, 1) := by decide +kernel
theorem dX1_mends_59 : decode cX1_mends 59 = .ok (.if_icmp .ge 5, 3) := by decide +kernel
theorem dX1_mends_62 : decode cX1_mends 62 = .ok (.iload_n 3, 1) := by decide +kernel
theorem dX1_mends_63 : decode cX1_mends 63 = .ok (.ireturn, 1) := by decide +kernel
theorem dX1_mends_64 : decode cX1_mends 64 = .ok (.iinc 3 1, 3) := by decide +kernel
theorem dX1_mends_67 : decode cX1_mends 67 = .ok (.goto (-54), 3) := by decide +kernel
theorem dX1_mends_70 : decode cX1_mends 70 = .ok (.iconst 3, 1) := by decide +kernel
theorem dX1_mends_71 : decode cX1_mends 71 = .ok (.ireturn, 1) := by decide +kernel
set_option maxRecDepth 20000 in
theorem ggX1_isSame_X1_words : GoodIn wsX1_isSame wsX1_words := goodIn_r _ [10, 1, 11, 4, 249, 250, 251] (by decide +kernel) (by decide +kernel)
set_option maxRecDepth 20000 in
theorem gX1_isSame_X1_words : GoodIn wsX1_isSame (wsV RX1 33 RX1 yX1_words wsX1_words) := goodIn_app (goodIn_of _ (by decide +kernel)) ggX1_isSame_X1_words
set_option maxRecDepth 20000 in
theorem ggX1_isSame_X0_remarks : GoodIn wsX1_isSame wsX0_remarks := goodIn_r _ [16, 17, 252, 253, 254, 255, 256, 257, 258, 259, 260, 261] (by decide +kernel) (by decide +kernel)
set_option maxRecDepth 20000 in
theorem gX1_isSame_X0_remarks : GoodIn wsX1_isSame (wsV RX1 52 RX0 yX0_remarks wsX0_remarks) := goodIn_app (goodIn_of _ (by decide +kernel)) ggX1_isSame_X0_remarks
set_option maxRecDepth 20000 in
theorem ggX1_isSame_X0_words : GoodIn wsX1_isSame wsX0_words := goodIn_r _ [21, 22, 252, 253, 254, 255, 256, 257, 258, 259, 260, 261] (by decide +kernel) (by decide +kernel)
set_option maxRecDepth 20000 in
theorem gX1_isSame_X0_words : GoodIn wsX1_isSame (wsV RX1 58 RX0 yX0_words wsX0_words) := goodIn_app (goodIn_of _ (by decide +kernel)) ggX1_isSame_X0_words
set_option maxRecDepth 20000 in
theorem ggX1_isSame_X0_coughs : GoodIn wsX1_isSame wsX0_coughs := goodIn_r _ [26, 17, 22, 252, 253, 254, 255, 256, 257, 258, 259, 260, 261] (by decide +kernel) (by decide +kernel)
set_option maxRecDepth 20000 in
theorem gX1_isSame_X0_coughs : GoodIn wsX1_isSame (wsV RX1 60 RX0 yX0_coughs wsX0_coughs) := goodIn_app (goodIn_of _ (by decide +kernel)) ggX1_isSame_X0_coughs
set_option maxRecDepth 20000 in
theorem ggX1_isSame_X0_patience : GoodIn wsX1_isSame wsX0_patience := goodIn_r _ [30, 31, 252, 253, 254, 255, 256, 257, 258, 259, 260, 261] (by decide +kernel) (by decide +kernel)
set_option maxRecDepth 20000 in
theorem gX1_isSame_X0_patience : GoodIn wsX1_isSame (wsV RX1 63 RX0 yX0_patience wsX0_patience) := goodIn_app (goodIn_of _ (by decide +kernel)) ggX1_isSame_X0_patience
set_option maxRecDepth 20000 in
theorem ggX1_isSame_X0_spent : GoodIn wsX1_isSame wsX0_spent := goodIn_r _ [35, 36, 252, 253, 254, 255, 256, 257, 258, 259, 260, 261] (by decide +kernel) (by decide +kernel)
set_option maxRecDepth 20000 in
theorem gX1_isSame_X0_spent : GoodIn wsX1_isSame (wsV RX1 65 RX0 yX0_spent wsX0_spent) := goodIn_app (goodIn_of _ (by decide +kernel)) ggX1_isSame_X0_spent
set_option maxRecDepth 20000 in
theorem ggX1_isSame_X0_brokenGaps : GoodIn wsX1_isSame wsX0_brokenGaps := goodIn_r _ [40, 41, 42, 43, 15, 44, 45, 46, 47, 48, 22, 49, 50, 51, 52, 53, 54, 55, 56, 57, 58, 59, 60, 61, 62, 63, 64, 65, 66, 67, 68, 69, 70, 71, 72, 73, 74, 75, 76, 77, 78, 79, 80, 81, 82, 83, 84, 85, 86, 87, 88, 89, 90, 91, 92, 93, 94, 95, 96, 97, 98, 99, 252, 253, 254, 255, 256, 257, 258, 259, 260, 261] (by decide +kernel) (by decide +kernel)
set_option maxRecDepth 20000 in
theorem gX1_isSame_X0_brokenGaps : GoodIn wsX1_isSame (wsV RX1 67 RX0 yX0_brokenGaps wsX0_brokenGaps) := goodIn_app (goodIn_of _ (by decide +kernel)) ggX1_isSame_X0_brokenGaps
set_option maxRecDepth 20000 in
theorem ggX1_isSame_X1_broken : GoodIn wsX1_isSame wsX1_broken := goodIn_r _ [102, 103, 104, 9, 105, 106, 107, 108, 109, 110, 111, 112, 113, 114] (by decide +kernel) (by decide +kernel)
set_option maxRecDepth 20000 in
theorem gX1_isSame_X1_broken : GoodIn wsX1_isSame (va_wsS RX1 70 yX1_broken wsX1_broken) := goodIn_app (goodIn_of _ (by decide +kernel)) ggX1_isSame_X1_broken
set_option maxRecDepth 20000 in
theorem ggX1_isSame_X0_isCough : GoodIn wsX1_isSame wsX0_isCough := goodIn_ca (goodIn_r _ [118, 119, 120, 121, 15, 122, 123, 124, 17, 125, 126, 127, 128, 70, 59, 60, 61, 252, 253, 254, 255, 256, 257, 258, 259, 260, 261] (by decide +kernel) (by decide +kernel)) (goodIn_sub (fun _ h => List.mem_cons_of_mem _ (List.mem_append_right _ h)) (by decide +kernel))
set_option maxRecDepth 20000 in
theorem gX1_isSame_X0_isCough : GoodIn wsX1_isSame (wsV RX1 74 RX0 yX0_isCough wsX0_isCough) := goodIn_app (goodIn_of _ (by decide +kernel)) ggX1_isSame_X0_isCough
set_option maxRecDepth 20000 in
theorem ggX1_isSame_X0_speakerAt : GoodIn wsX1_isSame wsX0_speakerAt := goodIn_ca (goodIn_r _ [132, 93, 119, 120, 121, 15, 122, 123, 124, 17, 59, 60, 61, 252, 253, 254, 255, 256, 257, 258, 259, 260, 261] (by decide +kernel) (by decide +kernel)) (goodIn_sub (fun _ h => List.mem_cons_of_mem _ (List.mem_append_right _ h)) (by decide +kernel))
set_option maxRecDepth 20000 in
theorem gX1_isSame_X0_speakerAt : GoodIn wsX1_isSame (wsV RX1 78 RX0 yX0_speakerAt wsX0_speakerAt) := goodIn_app (goodIn_of _ (by decide +kernel)) ggX1_isSame_X0_speakerAt
set_option maxRecDepth 20000 in
theorem ggX1_isSame_X0_placeOf : GoodIn wsX1_isSame wsX0_placeOf := goodIn_ca (goodIn_r _ [136, 58, 137, 138, 139, 15, 140, 123, 124, 22, 59, 60, 61, 252, 253, 254, 255, 256, 257, 258, 259, 260, 261] (by decide +kernel) (by decide +kernel)) (goodIn_sub (fun _ h => List.mem_cons_of_mem _ (List.mem_append_right _ h)) (by decide +kernel))
set_option maxRecDepth 20000 in
theorem gX1_isSame_X0_placeOf : GoodIn wsX1_isSame (wsV RX1 83 RX0 yX0_placeOf wsX0_placeOf) := goodIn_app (goodIn_of _ (by decide +kernel)) ggX1_isSame_X0_placeOf
set_option maxRecDepth 20000 in
theorem ggX1_isSame_X0_topicOf : GoodIn wsX1_isSame wsX0_topicOf := goodIn_ca (goodIn_r _ [144, 137, 138, 139, 15, 140, 123, 124, 22, 66, 67, 68, 69, 70, 58, 59, 60, 61, 252, 253, 254, 255, 256, 257, 258, 259, 260, 261] (by decide +kernel) (by decide +kernel)) (goodIn_sub (fun _ h => List.mem_cons_of_mem _ (List.mem_append_right _ h)) (by decide +kernel))
set_option maxRecDepth 20000 in
theorem gX1_isSame_X0_topicOf : GoodIn wsX1_isSame (wsV RX1 86 RX0 yX0_topicOf wsX0_topicOf) := goodIn_app (goodIn_of _ (by decide +kernel)) ggX1_isSame_X0_topicOf
set_option maxRecDepth 20000 in
theorem ggX1_isSame_X0_threadOf : GoodIn wsX1_isSame wsX0_threadOf := goodIn_ca (goodIn_r _ [148, 137, 138, 139, 15, 140, 123, 124, 22, 149, 150, 151, 152, 153, 59, 60, 61, 252, 253, 254, 255, 256, 257, 258, 259, 260, 261] (by decide +kernel) (by decide +kernel)) (goodIn_sub (fun _ h => List.mem_cons_of_mem _ (List.mem_append_right _ h)) (by decide +kernel))
set_option maxRecDepth 20000 in
theorem gX1_isSame_X0_threadOf : GoodIn wsX1_isSame (wsV RX1 89 RX0 yX0_threadOf wsX0_threadOf) := goodIn_app (goodIn_of _ (by decide +kernel)) ggX1_isSame_X0_threadOf
set_option maxRecDepth 20000 in
theorem ggX1_isSame_X1_sort_ : GoodIn wsX1_isSame wsX1_sort_ := goodIn_r _ [105, 106, 107, 9, 108, 109, 110, 111, 112, 113, 114] (by decide +kernel) (by decide +kernel)
set_option maxRecDepth 20000 in
theorem gX1_isSame_X1_sort_ : GoodIn wsX1_isSame (va_wsS RX1 31 yX1_sort_ wsX1_sort_) := goodIn_app (goodIn_of _ (by decide +kernel)) ggX1_isSame_X1_sort_
set_option maxRecDepth 20000 in
theorem ggX1_isSame_X0_coughsIn : GoodIn wsX1_isSame wsX0_coughsIn := goodIn_ca (goodIn_r _ [157, 158, 159, 160, 15, 161, 123, 124, 45, 46, 47, 48, 22, 81, 82, 83, 84, 58, 59, 60, 61, 252, 253, 254, 255, 256, 257, 258, 259, 260, 261] (by decide +kernel) (by decide +kernel)) (goodIn_sub (fun _ h => List.mem_cons_of_mem _ (List.mem_append_right _ h)) (by decide +kernel))
set_option maxRecDepth 20000 in
theorem gX1_isSame_X0_coughsIn : GoodIn wsX1_isSame (wsV RX1 92 RX0 yX0_coughsIn wsX0_coughsIn) := goodIn_app (goodIn_of _ (by decide +kernel)) ggX1_isSame_X0_coughsIn
set_option maxRecDepth 20000 in
theorem ggX1_isSame_X0_strainOf : GoodIn wsX1_isSame wsX0_strainOf := goodIn_ca (goodIn_r _ [165, 158, 159, 160, 15, 161, 123, 124, 45, 46, 47, 48, 22, 62, 63, 64, 65, 66, 67, 68, 69, 70, 58, 59, 60, 61, 71, 72, 73, 74, 75, 76, 77, 78, 79, 80, 81, 82, 83, 84, 252, 253, 254, 255, 256, 257, 258, 259, 260, 261] (by decide +kernel) (by decide +kernel)) (goodIn_sub (fun _ h => List.mem_cons_of_mem _ (List.mem_append_right _ h)) (by decide +kernel))
set_option maxRecDepth 20000 in
theorem gX1_isSame_X0_strainOf : GoodIn wsX1_isSame (wsV RX1 95 RX0 yX0_strainOf wsX0_strainOf) := goodIn_app (goodIn_of _ (by decide +kernel)) ggX1_isSame_X0_strainOf
set_option maxRecDepth 20000 in
theorem ggX1_isSame_X1_strain : GoodIn wsX1_isSame wsX1_strain := goodIn_r _ [108, 109, 110, 9, 111] (by decide +kernel) (by decide +kernel)
set_option maxRecDepth 20000 in
theorem gX1_isSame_X1_strain : GoodIn wsX1_isSame (va_wsS RX1 23 yX1_strain wsX1_strain) := goodIn_app (goodIn_of _ (by decide +kernel)) ggX1_isSame_X1_strain
set_option maxRecDepth 20000 in
theorem ggX1_isSame_X0_isTied : GoodIn wsX1_isSame wsX0_isTied := goodIn_ca (goodIn_r _ [169, 158, 159, 160, 15, 161, 123, 124, 45, 46, 47, 48, 22, 53, 54, 55, 56, 57, 58, 59, 60, 61, 252, 253, 254, 255, 256, 257, 258, 259, 260, 261] (by decide +kernel) (by decide +kernel)) (goodIn_sub (fun _ h => List.mem_cons_of_mem _ (List.mem_append_right _ h)) (by decide +kernel))
set_option maxRecDepth 20000 in
theorem gX1_isSame_X0_isTied : GoodIn wsX1_isSame (wsV RX1 98 RX0 yX0_isTied wsX0_isTied) := goodIn_app (goodIn_of _ (by decide +kernel)) ggX1_isSame_X0_isTied
set_option maxRecDepth 20000 in
theorem ggX1_isSame_X0_isSmooth : GoodIn wsX1_isSame wsX0_isSmooth := goodIn_ca (goodIn_r _ [173, 158, 159, 160, 15, 161, 123, 124, 45, 46, 47, 48, 22, 49, 50, 51, 52, 53, 54, 55, 56, 57, 58, 59, 60, 61, 62, 63, 64, 65, 66, 67, 68, 69, 70, 71, 72, 73, 74, 75, 76, 77, 78, 79, 80, 81, 82, 83, 84, 85, 86, 87, 88, 89, 90, 91, 92, 93, 94, 95, 96, 97, 98, 99, 252, 253, 254, 255, 256, 257, 258, 259, 260, 261] (by decide +kernel) (by decide +kernel)) (goodIn_sub (fun _ h => List.mem_cons_of_mem _ (List.mem_append_right _ h)) (by decide +kernel))
set_option maxRecDepth 20000 in
theorem gX1_isSame_X0_isSmooth : GoodIn wsX1_isSame (wsV RX1 101 RX0 yX0_isSmooth wsX0_isSmooth) := goodIn_app (goodIn_of _ (by decide +kernel)) ggX1_isSame_X0_isSmooth
set_option maxRecDepth 20000 in
theorem ggX1_isSame_X0_isPolite : GoodIn wsX1_isSame wsX0_isPolite := goodIn_ca (goodIn_r _ [177, 158, 159, 160, 15, 161, 123, 124, 45, 46, 47, 48, 22, 49, 50, 51, 52, 53, 54, 55, 56, 57, 58, 59, 60, 61, 62, 63, 64, 65, 66, 67, 68, 69, 70, 71, 72, 73, 74, 75, 76, 77, 78, 79, 80, 81, 82, 83, 84, 85, 86, 87, 88, 89, 90, 91, 92, 93, 94, 95, 96, 97, 98, 99, 252, 253, 254, 255, 256, 257, 258, 259, 260, 261] (by decide +kernel) (by decide +kernel)) (goodIn_sub (fun _ h => List.mem_cons_of_mem _ (List.mem_append_right _ h)) (by decide +kernel))
set_option maxRecDepth 20000 in
theorem gX1_isSame_X0_isPolite : GoodIn wsX1_isSame (wsV RX1 104 RX0 yX0_isPolite wsX0_isPolite) := goodIn_app (goodIn_of _ (by decide +kernel)) ggX1_isSame_X0_isPolite
set_option maxRecDepth 20000 in
theorem ggX1_isSame_X0_isBroken : GoodIn wsX1_isSame wsX0_isBroken := goodIn_ca (goodIn_r _ [181, 158, 159, 160, 15, 161, 123, 124, 45, 46, 47, 48, 22, 49, 50, 51, 52, 53, 54, 55, 56, 57, 58, 59, 60, 61, 62, 63, 64, 65, 66, 67, 68, 69, 70, 71, 72, 73, 74, 75, 76, 77, 78, 79, 80, 81, 82, 83, 84, 85, 86, 87, 88, 89, 90, 91, 92, 93, 94, 95, 96, 97, 98, 99, 252, 253, 254, 255, 256, 257, 258, 259, 260, 261] (by decide +kernel) (by decide +kernel)) (goodIn_sub (fun _ h => List.mem_cons_of_mem _ (List.mem_append_right _ h)) (by decide +kernel))
set_option maxRecDepth 20000 in
theorem gX1_isSame_X0_isBroken : GoodIn wsX1_isSame (wsV RX1 107 RX0 yX0_isBroken wsX0_isBroken) := goodIn_app (goodIn_of _ (by decide +kernel)) ggX1_isSame_X0_isBroken
set_option maxRecDepth 20000 in
theorem ggX1_isSame_X0_costOfMending : GoodIn wsX1_isSame wsX0_costOfMending := goodIn_ca (goodIn_r _ [185, 158, 159, 160, 15, 161, 123, 124, 45, 46, 47, 48, 22, 186, 187, 188, 189, 78, 79, 76, 80, 49, 50, 51, 52, 53, 54, 55, 56, 57, 58, 59, 60, 61, 62, 63, 64, 65, 66, 67, 68, 69, 70, 71, 72, 73, 74, 75, 77, 81, 82, 83, 84, 85, 86, 87, 88, 89, 90, 91, 92, 93, 94, 95, 96, 97, 98, 99, 252, 253, 254, 255, 256, 257, 258, 259, 260, 261] (by decide +kernel) (by decide +kernel)) (goodIn_sub (fun _ h => List.mem_cons_of_mem _ (List.mem_append_right _ h)) (by decide +kernel))
set_option maxRecDepth 20000 in
theorem gX1_isSame_X0_costOfMending : GoodIn wsX1_isSame (wsV RX1 110 RX0 yX0_costOfMending wsX0_costOfMending) := goodIn_app (goodIn_of _ (by decide +kernel)) ggX1_isSame_X0_costOfMending
set_option maxRecDepth 20000 in
theorem ggX1_isSame_X1_mends : GoodIn wsX1_isSame wsX1_mends := goodIn_r _ [193, 103, 104, 9, 105, 106, 107, 108, 109, 110, 111, 112, 113, 114] (by decide +kernel) (by decide +kernel)
set_option maxRecDepth 20000 in
theorem gX1_isSame_X1_mends : GoodIn wsX1_isSame (wsV RX1 113 RX1 yX1_mends wsX1_mends) := goodIn_app (goodIn_of _ (by decide +kernel)) ggX1_isSame_X1_mends
set_option maxRecDepth 20000 in
theorem ggX1_isSame_X0_lengthOf : GoodIn wsX1_isSame wsX0_lengthOf := goodIn_ca (goodIn_r _ [197, 198, 199, 200, 15, 201, 123, 124, 202, 203, 204, 205, 206, 22, 149, 150, 151, 152, 153, 59, 60, 61, 252, 253, 254, 255, 256, 257, 258, 259, 260, 261] (by decide +kernel) (by decide +kernel)) (goodIn_sub (fun _ h => List.mem_cons_of_mem _ (List.mem_append_right _ h)) (by decide +kernel))
set_option maxRecDepth 20000 in
theorem gX1_isSame_X0_lengthOf : GoodIn wsX1_isSame (wsV RX1 116 RX0 yX0_lengthOf wsX0_lengthOf) := goodIn_app (goodIn_of _ (by decide +kernel)) ggX1_isSame_X0_lengthOf
set_option maxRecDepth 20000 in
theorem ggX1_isSame_X0_topicsIn : GoodIn wsX1_isSame wsX0_topicsIn := goodIn_ca (goodIn_r _ [210, 22, 198, 199, 200, 15, 201, 123, 124, 202, 149, 150, 151, 152, 153, 59, 60, 61, 66, 67, 68, 69, 70, 58, 211, 212, 213, 214, 215, 216, 217, 252, 253, 254, 255, 256, 257, 258, 259, 260, 261] (by decide +kernel) (by decide +kernel)) (goodIn_sub (fun _ h => List.mem_cons_of_mem _ (List.mem_append_right _ h)) (by decide +kernel))
set_option maxRecDepth 20000 in
theorem gX1_isSame_X0_topicsIn : GoodIn wsX1_isSame (wsV RX1 119 RX0 yX0_topicsIn wsX0_topicsIn) := goodIn_app (goodIn_of _ (by decide +kernel)) ggX1_isSame_X0_topicsIn
set_option maxRecDepth 20000 in
theorem ggX1_isSame_X0_wordsOf : GoodIn wsX1_isSame wsX0_wordsOf := goodIn_ca (goodIn_r _ [221, 22, 222, 223, 15, 224, 123, 124, 89, 90, 91, 92, 93, 58, 59, 60, 61, 252, 253, 254, 255, 256, 257, 258, 259, 260, 261] (by decide +kernel) (by decide +kernel)) (goodIn_sub (fun _ h => List.mem_cons_of_mem _ (List.mem_append_right _ h)) (by decide +kernel))
set_option maxRecDepth 20000 in
theorem gX1_isSame_X0_wordsOf : GoodIn wsX1_isSame (wsV RX1 122 RX0 yX0_wordsOf wsX0_wordsOf) := goodIn_app (goodIn_of _ (by decide +kernel)) ggX1_isSame_X0_wordsOf
set_option maxRecDepth 20000 in
theorem ggX1_isSame_X0_threadsOf : GoodIn wsX1_isSame wsX0_threadsOf := goodIn_ca (goodIn_r _ [228, 22, 222, 223, 15, 224, 123, 124, 149, 150, 151, 152, 153, 59, 60, 61, 89, 90, 91, 92, 93, 58, 252, 253, 254, 255, 256, 257, 258, 259, 260, 261] (by decide +kernel) (by decide +kernel)) (goodIn_sub (fun _ h => List.mem_cons_of_mem _ (List.mem_append_right _ h)) (by decide +kernel))
set_option maxRecDepth 20000 in
theorem gX1_isSame_X0_threadsOf : GoodIn wsX1_isSame (wsV RX1 125 RX0 yX0_threadsOf wsX0_threadsOf) := goodIn_app (goodIn_of _ (by decide +kernel)) ggX1_isSame_X0_threadsOf
set_option maxRecDepth 20000 in
theorem ggX1_isSame_X0_politeGaps : GoodIn wsX1_isSame wsX0_politeGaps := goodIn_r _ [232, 41, 42, 43, 15, 44, 45, 46, 47, 48, 22, 49, 50, 51, 52, 53, 54, 55, 56, 57, 58, 59, 60, 61, 62, 63, 64, 65, 66, 67, 68, 69, 70, 71, 72, 73, 74, 75, 76, 77, 78, 79, 80, 81, 82, 83, 84, 85, 86, 87, 88, 89, 90, 91, 92, 93, 94, 95, 96, 97, 98, 99, 252, 253, 254, 255, 256, 257, 258, 259, 260, 261] (by decide +kernel) (by decide +kernel)
set_option maxRecDepth 20000 in
theorem gX1_isSame_X0_politeGaps : GoodIn wsX1_isSame (wsV RX1 128 RX0 yX0_politeGaps wsX0_politeGaps) := goodIn_app (goodIn_of _ (by decide +kernel)) ggX1_isSame_X0_politeGaps
set_option maxRecDepth 20000 in
theorem ggX1_isSame_X0_threads : GoodIn wsX1_isSame wsX0_threads := goodIn_r _ [236, 202, 252, 253, 254, 255, 256, 257, 258, 259, 260, 261] (by decide +kernel) (by decide +kernel)
set_option maxRecDepth 20000 in
theorem gX1_isSame_X0_threads : GoodIn wsX1_isSame (wsV RX1 131 RX0 yX0_threads wsX0_threads) := goodIn_app (goodIn_of _ (by decide +kernel)) ggX1_isSame_X0_threads
set_option maxRecDepth 20000 in
theorem ggX1_isSame_X0_longestThread : GoodIn wsX1_isSame wsX0_longestThread := goodIn_r _ [240, 202, 203, 204, 205, 15, 206, 22, 149, 150, 151, 152, 153, 59, 60, 61, 252, 253, 254, 255, 256, 257, 258, 259, 260, 261] (by decide +kernel) (by decide +kernel)
set_option maxRecDepth 20000 in
theorem gX1_isSame_X0_longestThread : GoodIn wsX1_isSame (wsV RX1 134 RX0 yX0_longestThread wsX0_longestThread) := goodIn_app (goodIn_of _ (by decide +kernel)) ggX1_isSame_X0_longestThread
set_option maxRecDepth 20000 in
theorem ggX1_isSame_X0_costOfAll : GoodIn wsX1_isSame wsX0_costOfAll := goodIn_r _ [244, 45, 46, 47, 15, 48, 22, 186, 187, 188, 189, 78, 79, 76, 80, 49, 50, 51, 52, 53, 54, 55, 56, 57, 58, 59, 60, 61, 62, 63, 64, 65, 66, 67, 68, 69, 70, 71, 72, 73, 74, 75, 77, 81, 82, 83, 84, 85, 86, 87, 88, 89, 90, 91, 92, 93, 94, 95, 96, 97, 98, 99, 252, 253, 254, 255, 256, 257, 258, 259, 260, 261] (by decide +kernel) (by decide +kernel)
set_option maxRecDepth 20000 in
theorem gX1_isSame_X0_costOfAll : GoodIn wsX1_isSame (wsV RX1 137 RX0 yX0_costOfAll wsX0_costOfAll) := goodIn_app (goodIn_of _ (by decide +kernel)) ggX1_isSame_X0_costOfAll
set_option maxRecDepth 20000 in
theorem ggX1_isSame_X0_meanStrain : GoodIn wsX1_isSame wsX0_meanStrain := goodIn_r _ [248, 45, 46, 47, 15, 48, 22, 62, 63, 64, 65, 66, 67, 68, 69, 70, 58, 59, 60, 61, 71, 72, 73, 74, 75, 76, 77, 78, 79, 80, 81, 82, 83, 84, 252, 253, 254, 255, 256, 257, 258, 259, 260, 261] (by decide +kernel) (by decide +kernel)
set_option maxRecDepth 20000 in
theorem gX1_isSame_X0_meanStrain : GoodIn wsX1_isSame (wsV RX1 140 RX0 yX0_meanStrain wsX0_meanStrain) := goodIn_app (goodIn_of _ (by decide +kernel)) ggX1_isSame_X0_meanStrain
theorem dX1_isSame_0 : decode cX1_isSame 0 = .ok (.aload_n 0, 1) := by decide +kernel
theorem dX1_isSame_1 : decode cX1_isSame 1 = .ok (.invokevirtual 33, 3) := by decide +kernel
theorem dX1_isSame_4 : decode cX1_isSame 4 = .ok (.astore_n 2, 1) := by decide +kernel
theorem dX1_isSame_5 : decode cX1_isSame 5 = .ok (.aload_n 2, 1) := by decide +kernel
theorem dX1_isSame_6 : decode cX1_isSame 6 = .ok (.arraylength, 1) := by decide +kernel
theorem dX1_isSame_7 : decode cX1_isSame 7 = .ok (.istore_n 3, 1) := by decide +kernel
theorem dX1_isSame_8 : decode cX1_isSame 8 = .ok (.aload_n 1, 1) := by decide +kernel
theorem dX1_isSame_9 : decode cX1_isSame 9 = .ok (.invokevirtual 52, 3) := by decide +kernel
theorem dX1_isSame_12 : decode cX1_isSame 12 = .ok (.aload_n 0, 1) := by decide +kernel
theorem dX1_isSame_13 : decode cX1_isSame 13 = .ok (.getfield 15, 3) := by decide +kernel
theorem dX1_isSame_16 : decode cX1_isSame 16 = .ok (.arraylength, 1) := by decide +kernel
theorem dX1_isSame_17 : decode cX1_isSame 17 = .ok (.if_icmp .ne 58, 3) := by decide +kernel
theorem dX1_isSame_20 : decode cX1_isSame 20 = .ok (.aload_n 1, 1) := by decide +kernel
theorem dX1_isSame_21 : decode cX1_isSame 21 = .ok (.invokevirtual 58, 3) := by decide +kernel
theorem dX1_isSame_24 : decode cX1_isSame 24 = .ok (.iload_n 3, 1) := by decide +kernel
theorem dX1_isSame_25 : decode cX1_isSame 25 = .ok (.if_icmp .ne 50, 3) := by decide +kernel
theorem dX1_isSame_28 : decode cX1_isSame 28 = .ok (.aload_n 1, 1) := by decide +kernel
theorem dX1_isSame_29 : decode cX1_isSame 29 = .ok (.invokevirtual 60, 3) := by decide +kernel
theorem dX1_isSame_32 : decode cX1_isSame 32 = .ok (.aload_n 0, 1) := by decide +kernel
theorem dX1_isSame_33 : decode cX1_isSame 33 = .ok (.getfield 15, 3) := by decide +kernel
theorem dX1_isSame_36 : decode cX1_isSame 36 = .ok (.arraylength, 1) := by decide +kernel
theorem dX1_isSame_37 : decode cX1_isSame 37 = .ok (.iload_n 3, 1) := by decide +kernel
theorem dX1_isSame_38 : decode cX1_isSame 38 = .ok (.isub, 1) := by decide +kernel
theorem dX1_isSame_39 : decode cX1_isSame 39 = .ok (.if_icmp .ne 36, 3) := by decide +kernel
theorem dX1_isSame_42 : decode cX1_isSame 42 = .ok (.aload_n 1, 1) := by decide +kernel
theorem dX1_isSame_43 : decode cX1_isSame 43 = .ok (.invokevirtual 63, 3) := by decide +kernel
theorem dX1_isSame_46 : decode cX1_isSame 46 = .ok (.aload_n 0, 1) := by decide +kernel
theorem dX1_isSame_47 : decode cX1_isSame 47 = .ok (.getfield 7, 3) := by decide +kernel
theorem dX1_isSame_50 : decode cX1_isSame 50 = .ok (.if_icmp .ne 25, 3) := by decide +kernel
theorem dX1_isSame_53 : decode cX1_isSame 53 = .ok (.aload_n 1, 1) := by decide +kernel
theorem dX1_isSame_54 : decode cX1_isSame 54 = .ok (.invokevirtual 65, 3) := by decide +kernel
theorem dX1_isSame_57 : decode cX1_isSame 57 = .ok (.aload_n 0, 1) := by decide +kernel
theorem dX1_isSame_58 : decode cX1_isSame 58 = .ok (.getfield 45, 3) := by decide +kernel
theorem dX1_isSame_61 : decode cX1_isSame 61 = .ok (.if_icmp .ne 14, 3) := by decide +kernel
theorem dX1_isSame_64 : decode cX1_isSame 64 = .ok (.aload_n 1, 1) := by decide +kernel
theorem dX1_isSame_65 : decode cX1_isSame 65 = .ok (.invokevirtual 67, 3) := by decide +kernel
theorem dX1_isSame_68 : decode cX1_isSame 68 = .ok (.aload_n 2, 1) := by decide +kernel
theorem dX1_isSame_69 : decode cX1_isSame 69 = .ok (.invokestatic 70, 3) := by decide +kernel
theorem dX1_isSame_72 : decode cX1_isSame 72 = .ok (.if_icmp .eq 5, 3) := by decide +kernel
theorem dX1_isSame_75 : decode cX1_isSame 75 = .ok (.iconst 0, 1) := by decide +kernel
theorem dX1_isSame_76 : decode cX1_isSame 76 = .ok (.ireturn, 1) := by decide +kernel
theorem dX1_isSame_77 : decode cX1_isSame 77 = .ok (.iconst 0, 1) := by decide +kernel
theorem dX1_isSame_78 : decode cX1_isSame 78 = .ok (.istore 4, 2) := by decide +kernel
theorem dX1_isSame_80 : decode cX1_isSame 80 = .ok (.iload 4, 2) := by decide +kernel
theorem dX1_isSame_82 : decode cX1_isSame 82 = .ok (.aload_n 0, 1) := by decide +kernel
theorem dX1_isSame_83 : decode cX1_isSame 83 = .ok (.getfield 15, 3) := by decide +kernel
theorem dX1_isSame_86 : decode cX1_isSame 86 = .ok (.arraylength, 1) := by decide +kernel
theorem dX1_isSame_87 : decode cX1_isSame 87 = .ok (.if_icmp .ge 55, 3) := by decide +kernel
theorem dX1_isSame_90 : decode cX1_isSame 90 = .ok (.aload_n 1, 1) := by decide +kernel
theorem dX1_isSame_91 : decode cX1_isSame 91 = .ok (.iload 4, 2) := by decide +kernel
theorem dX1_isSame_93 : decode cX1_isSame 93 = .ok (.invokevirtual 74, 3) := by decide +kernel
theorem dX1_isSame_96 : decode cX1_isSame 96 = .ok (.aload_n 0, 1) := by decide +kernel
theorem dX1_isSame_97 : decode cX1_isSame 97 = .ok (.getfield 15, 3) := by decide +kernel
theorem dX1_isSame_100 : decode cX1_isSame 100 = .ok (.iload 4, 2) := by decide +kernel
theorem dX1_isSame_102 : decode cX1_isSame 102 = .ok (.aaload, 1) := by decide +kernel
theorem dX1_isSame_103 : decode cX1_isSame 103 = .ok (.iconst 1, 1) := by decide +kernel
theorem dX1_isSame_104 : decode cX1_isSame 104 = .ok (.iaload, 1) := by decide +kernel
theorem dX1_isSame_105 : decode cX1_isSame 105 = .ok (.ifCond .ge 7, 3) := by decide +kernel
theorem dX1_isSame_108 : decode cX1_isSame 108 = .ok (.iconst 1, 1) := by decide +kernel
theorem dX1_isSame_109 : decode cX1_isSame 109 = .ok (.goto 4, 3) := by decide +kernel
theorem dX1_isSame_112 : decode cX1_isSame 112 = .ok (.iconst 0, 1) := by decide +kernel
theorem dX1_isSame_113 : decode cX1_isSame 113 = .ok (.if_icmp .ne 21, 3) := by decide +kernel
theorem dX1_isSame_116 : decode cX1_isSame 116 = .ok (.aload_n 1, 1) := by decide +kernel
theorem dX1_isSame_117 : decode cX1_isSame 117 = .ok (.iload 4, 2) := by decide +kernel
theorem dX1_isSame_119 : decode cX1_isSame 119 = .ok (.invokevirtual 78, 3) := by decide +kernel
theorem dX1_isSame_122 : decode cX1_isSame 122 = .ok (.aload_n 0, 1) := by decide +kernel
theorem dX1_isSame_123 : decode cX1_isSame 123 = .ok (.getfield 15, 3) := by decide +kernel
theorem dX1_isSame_126 : decode cX1_isSame 126 = .ok (.iload 4, 2) := by decide +kernel
theorem dX1_isSame_128 : decode cX1_isSame 128 = .ok (.aaload, 1) := by decide +kernel
theorem dX1_isSame_129 : decode cX1_isSame 129 = .ok (.iconst 0, 1) := by decide +kernel
theorem dX1_isSame_130 : decode cX1_isSame 130 = .ok (.iaload, 1) := by decide +kernel
theorem dX1_isSame_131 : decode cX1_isSame 131 = .ok (.if_icmp .eq 5, 3) := by decide +kernel
theorem dX1_isSame_134 : decode cX1_isSame 134 = .ok (.iconst 0, 1) := by decide +kernel
theorem dX1_isSame_135 : decode cX1_isSame 135 = .ok (.ireturn, 1) := by decide +kernel
theorem dX1_isSame_136 : decode cX1_isSame 136 = .ok (.iinc 4 1, 3) := by decide +kernel
theorem dX1_isSame_139 : decode cX1_isSame 139 = .ok (.goto (-59), 3) := by decide +kernel
theorem dX1_isSame_142 : decode cX1_isSame 142 = .ok (.iconst 0, 1) := by decide +kernel
theorem dX1_isSame_143 : decode cX1_isSame 143 = .ok (.istore 4, 2) := by decide +kernel
theorem dX1_isSame_145 : decode cX1_isSame 145 = .ok (.iconst 0, 1) := by decide +kernel
theorem dX1_isSame_146 : decode cX1_isSame 146 = .ok (.istore 5, 2) := by decide +kernel
theorem dX1_isSame_148 : decode cX1_isSame 148 = .ok (.iconst 0, 1) := by decide +kernel
theorem dX1_isSame_149 : decode cX1_isSame 149 = .ok (.istore 6, 2) := by decide +kernel
theorem dX1_isSame_151 : decode cX1_isSame 151 = .ok (.iconst 0, 1) := by decide +kernel
theorem dX1_isSame_152 : decode cX1_isSame 152 = .ok (.istore 7, 2) := by decide +kernel
theorem dX1_isSame_154 : decode cX1_isSame 154 = .ok (.iload_n 3, 1) := by decide +kernel
theorem dX1_isSame_155 : decode cX1_isSame 155 = .ok (.iconst 1, 1) := by decide +kernel
theorem dX1_isSame_156 : decode cX1_isSame 156 = .ok (.iadd, 1) := by decide +kernel
theorem dX1_isSame_157 : decode cX1_isSame 157 = .ok (.newarray .int, 2) := by decide +kernel
theorem dX1_isSame_159 : decode cX1_isSame 159 = .ok (.astore 8, 2) := by decide +kernel
theorem dX1_isSame_161 : decode cX1_isSame 161 = .ok (.bipush 6, 2) := by decide +kernel
theorem dX1_isSame_163 : decode cX1_isSame 163 = .ok (.newarray .int, 2) := by decide +kernel
theorem dX1_isSame_165 : decode cX1_isSame 165 = .ok (.astore 9, 2) := by decide +kernel
theorem dX1_isSame_167 : decode cX1_isSame 167 = .ok (.bipush 6, 2) := by decide +kernel
theorem dX1_isSame_169 : decode cX1_isSame 169 = .ok (.iload_n 3, 1) := by decide +kernel
theorem dX1_isSame_170 : decode cX1_isSame 170 = .ok (.iconst 1, 1) := by decide +kernel
theorem dX1_isSame_171 : decode cX1_isSame 171 = .ok (.iadd, 1) := by decide +kernel
theorem dX1_isSame_172 : decode cX1_isSame 172 = .ok (.multianewarray 82 2, 4) := by decide +kernel
theorem dX1_isSame_176 : decode cX1_isSame 176 = .ok (.astore 10, 2) := by decide +kernel
theorem dX1_isSame_178 : decode cX1_isSame 178 = .ok (.iload_n 3, 1) := by decide +kernel
theorem dX1_isSame_179 : decode cX1_isSame 179 = .ok (.iconst 1, 1) := by decide +kernel
theorem dX1_isSame_180 : decode cX1_isSame 180 = .ok (.iadd, 1) := by decide +kernel
theorem dX1_isSame_181 : decode cX1_isSame 181 = .ok (.bipush 10, 2) := by decide +kernel
theorem dX1_isSame_183 : decode cX1_isSame 183 = .ok (.multianewarray 82 2, 4) := by decide +kernel
theorem dX1_isSame_187 : decode cX1_isSame 187 = .ok (.astore 11, 2) := by decide +kernel
theorem dX1_isSame_189 : decode cX1_isSame 189 = .ok (.iconst 0, 1) := by decide +kernel
theorem dX1_isSame_190 : decode cX1_isSame 190 = .ok (.istore 12, 2) := by decide +kernel
theorem dX1_isSame_192 : decode cX1_isSame 192 = .ok (.iload 12, 2) := by decide +kernel
theorem dX1_isSame_194 : decode cX1_isSame 194 = .ok (.iload_n 3, 1) := by decide +kernel
theorem dX1_isSame_195 : decode cX1_isSame 195 = .ok (.if_icmp .ge 305, 3) := by decide +kernel
theorem dX1_isSame_198 : decode cX1_isSame 198 = .ok (.aload_n 1, 1) := by decide +kernel
theorem dX1_isSame_199 : decode cX1_isSame 199 = .ok (.iload 12, 2) := by decide +kernel
theorem dX1_isSame_201 : decode cX1_isSame 201 = .ok (.invokevirtual 83, 3) := by decide +kernel
theorem dX1_isSame_204 : decode cX1_isSame 204 = .ok (.aload_n 2, 1) := by decide +kernel
theorem dX1_isSame_205 : decode cX1_isSame 205 = .ok (.iload 12, 2) := by decide +kernel
theorem dX1_isSame_207 : decode cX1_isSame 207 = .ok (.aaload, 1) := by decide +kernel
theorem dX1_isSame_208 : decode cX1_isSame 208 = .ok (.iconst 4, 1) := by decide +kernel
theorem dX1_isSame_209 : decode cX1_isSame 209 = .ok (.iaload, 1) := by decide +kernel
theorem dX1_isSame_210 : decode cX1_isSame 210 = .ok (.if_icmp .ne 29, 3) := by decide +kernel
theorem dX1_isSame_213 : decode cX1_isSame 213 = .ok (.aload_n 1, 1) := by decide +kernel
theorem dX1_isSame_214 : decode cX1_isSame 214 = .ok (.iload 12, 2) := by decide +kernel
theorem dX1_isSame_216 : decode cX1_isSame 216 = .ok (.invokevirtual 86, 3) := by decide +kernel
theorem dX1_isSame_219 : decode cX1_isSame 219 = .ok (.aload_n 2, 1) := by decide +kernel
theorem dX1_isSame_220 : decode cX1_isSame 220 = .ok (.iload 12, 2) := by decide +kernel
theorem dX1_isSame_222 : decode cX1_isSame 222 = .ok (.aaload, 1) := by decide +kernel
theorem dX1_isSame_223 : decode cX1_isSame 223 = .ok (.iconst 1, 1) := by decide +kernel
theorem dX1_isSame_224 : decode cX1_isSame 224 = .ok (.iaload, 1) := by decide +kernel
theorem dX1_isSame_225 : decode cX1_isSame 225 = .ok (.if_icmp .ne 14, 3) := by decide +kernel
theorem dX1_isSame_228 : decode cX1_isSame 228 = .ok (.aload_n 1, 1) := by decide +kernel
theorem dX1_isSame_229 : decode cX1_isSame 229 = .ok (.iload 12, 2) := by decide +kernel
theorem dX1_isSame_231 : decode cX1_isSame 231 = .ok (.invokevirtual 89, 3) := by decide +kernel
theorem dX1_isSame_234 : decode cX1_isSame 234 = .ok (.iload 4, 2) := by decide +kernel
theorem dX1_isSame_236 : decode cX1_isSame 236 = .ok (.if_icmp .eq 5, 3) := by decide +kernel
theorem dX1_isSame_239 : decode cX1_isSame 239 = .ok (.iconst 0, 1) := by decide +kernel
theorem dX1_isSame_240 : decode cX1_isSame 240 = .ok (.ireturn, 1) := by decide +kernel
theorem dX1_isSame_241 : decode cX1_isSame 241 = .ok (.aload 8, 2) := by decide +kernel
theorem dX1_isSame_243 : decode cX1_isSame 243 = .ok (.iload 4, 2) := by decide +kernel
theorem dX1_isSame_245 : decode cX1_isSame 245 = .ok (.dup2, 1) := by decide +kernel
theorem dX1_isSame_246 : decode cX1_isSame 246 = .ok (.iaload, 1) := by decide +kernel
theorem dX1_isSame_247 : decode cX1_isSame 247 = .ok (.iconst 1, 1) := by decide +kernel
theorem dX1_isSame_248 : decode cX1_isSame 248 = .ok (.iadd, 1) := by decide +kernel
theorem dX1_isSame_249 : decode cX1_isSame 249 = .ok (.iastore, 1) := by decide +kernel
theorem dX1_isSame_250 : decode cX1_isSame 250 = .ok (.aload 9, 2) := by decide +kernel
theorem dX1_isSame_252 : decode cX1_isSame 252 = .ok (.aload_n 2, 1) := by decide +kernel
theorem dX1_isSame_253 : decode cX1_isSame 253 = .ok (.iload 12, 2) := by decide +kernel
theorem dX1_isSame_255 : decode cX1_isSame 255 = .ok (.aaload, 1) := by decide +kernel
theorem dX1_isSame_256 : decode cX1_isSame 256 = .ok (.iconst 0, 1) := by decide +kernel
theorem dX1_isSame_257 : decode cX1_isSame 257 = .ok (.iaload, 1) := by decide +kernel
theorem dX1_isSame_258 : decode cX1_isSame 258 = .ok (.dup2, 1) := by decide +kernel
theorem dX1_isSame_259 : decode cX1_isSame 259 = .ok (.iaload, 1) := by decide +kernel
theorem dX1_isSame_260 : decode cX1_isSame 260 = .ok (.iconst 1, 1) := by decide +kernel
theorem dX1_isSame_261 : decode cX1_isSame 261 = .ok (.iadd, 1) := by decide +kernel
theorem dX1_isSame_262 : decode cX1_isSame 262 = .ok (.iastore, 1) := by decide +kernel
theorem dX1_isSame_263 : decode cX1_isSame 263 = .ok (.aload 10, 2) := by decide +kernel
theorem dX1_isSame_265 : decode cX1_isSame 265 = .ok (.aload_n 2, 1) := by decide +kernel
theorem dX1_isSame_266 : decode cX1_isSame 266 = .ok (.iload 12, 2) := by decide +kernel
theorem dX1_isSame_268 : decode cX1_isSame 268 = .ok (.aaload, 1) := by decide +kernel
theorem dX1_isSame_269 : decode cX1_isSame 269 = .ok (.iconst 0, 1) := by decide +kernel
theorem dX1_isSame_270 : decode cX1_isSame 270 = .ok (.iaload, 1) := by decide +kernel
theorem dX1_isSame_271 : decode cX1_isSame 271 = .ok (.aaload, 1) := by decide +kernel
theorem dX1_isSame_272 : decode cX1_isSame 272 = .ok (.iload 4, 2) := by decide +kernel
