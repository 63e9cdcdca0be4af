theorem dL_fine_43 : decode cL_fine 43 = .ok (.imul, 1) := by decide +kernel
theorem dL_fine_44 : decode cL_fine 44 = .ok (.iconst 4, 1) := by decide +kernel
theorem dL_fine_45 : decode cL_fine 45 = .ok (.iadd, 1) := by decide +kernel
theorem dL_fine_46 : decode cL_fine 46 = .ok (.iaload, 1) := by decide +kernel
theorem dL_fine_47 : decode cL_fine 47 = .ok (.iload 6, 2) := by decide +kernel
theorem dL_fine_49 : decode cL_fine 49 = .ok (.if_icmp .ne 36, 3) := by decide +kernel
theorem dL_fine_52 : decode cL_fine 52 = .ok (.iload 7, 2) := by decide +kernel
theorem dL_fine_54 : decode cL_fine 54 = .ok (.iload 7, 2) := by decide +kernel
theorem dL_fine_56 : decode cL_fine 56 = .ok (.iadd, 1) := by decide +kernel
theorem dL_fine_57 : decode cL_fine 57 = .ok (.aload 5, 2) := by decide +kernel
theorem dL_fine_59 : decode cL_fine 59 = .ok (.bipush 8, 2) := by decide +kernel
theorem dL_fine_61 : decode cL_fine 61 = .ok (.iload_n 0, 1) := by decide +kernel
theorem dL_fine_62 : decode cL_fine 62 = .ok (.imul, 1) := by decide +kernel
theorem dL_fine_63 : decode cL_fine 63 = .ok (.iconst 2, 1) := by decide +kernel
theorem dL_fine_64 : decode cL_fine 64 = .ok (.iadd, 1) := by decide +kernel
theorem dL_fine_65 : decode cL_fine 65 = .ok (.iaload, 1) := by decide +kernel
theorem dL_fine_66 : decode cL_fine 66 = .ok (.invokestatic 55, 3) := by decide +kernel
theorem dL_fine_69 : decode cL_fine 69 = .ok (.if_icmp .lt 7, 3) := by decide +kernel
theorem dL_fine_72 : decode cL_fine 72 = .ok (.iconst 0, 1) := by decide +kernel
theorem dL_fine_73 : decode cL_fine 73 = .ok (.goto 7, 3) := by decide +kernel
theorem dL_fine_76 : decode cL_fine 76 = .ok (.iload 8, 2) := by decide +kernel
theorem dL_fine_78 : decode cL_fine 78 = .ok (.iconst 2, 1) := by decide +kernel
theorem dL_fine_79 : decode cL_fine 79 = .ok (.idiv, 1) := by decide +kernel
theorem dL_fine_80 : decode cL_fine 80 = .ok (.istore 8, 2) := by decide +kernel
theorem dL_fine_82 : decode cL_fine 82 = .ok (.goto 17, 3) := by decide +kernel
theorem dL_fine_85 : decode cL_fine 85 = .ok (.iload 7, 2) := by decide +kernel
theorem dL_fine_87 : decode cL_fine 87 = .ok (.ifCond .le 12, 3) := by decide +kernel
theorem dL_fine_90 : decode cL_fine 90 = .ok (.iload 8, 2) := by decide +kernel
theorem dL_fine_92 : decode cL_fine 92 = .ok (.iload 8, 2) := by decide +kernel
theorem dL_fine_94 : decode cL_fine 94 = .ok (.iconst 4, 1) := by decide +kernel
theorem dL_fine_95 : decode cL_fine 95 = .ok (.idiv, 1) := by decide +kernel
theorem dL_fine_96 : decode cL_fine 96 = .ok (.isub, 1) := by decide +kernel
theorem dL_fine_97 : decode cL_fine 97 = .ok (.istore 8, 2) := by decide +kernel
theorem dL_fine_99 : decode cL_fine 99 = .ok (.iload 8, 2) := by decide +kernel
theorem dL_fine_101 : decode cL_fine 101 = .ok (.aload_n 2, 1) := by decide +kernel
theorem dL_fine_102 : decode cL_fine 102 = .ok (.iconst 3, 1) := by decide +kernel
theorem dL_fine_103 : decode cL_fine 103 = .ok (.iload 6, 2) := by decide +kernel
theorem dL_fine_105 : decode cL_fine 105 = .ok (.iadd, 1) := by decide +kernel
theorem dL_fine_106 : decode cL_fine 106 = .ok (.iaload, 1) := by decide +kernel
theorem dL_fine_107 : decode cL_fine 107 = .ok (.if_icmp .ge 8, 3) := by decide +kernel
theorem dL_fine_110 : decode cL_fine 110 = .ok (.iload 8, 2) := by decide +kernel
theorem dL_fine_112 : decode cL_fine 112 = .ok (.goto 9, 3) := by decide +kernel
theorem dL_fine_115 : decode cL_fine 115 = .ok (.aload_n 2, 1) := by decide +kernel
theorem dL_fine_116 : decode cL_fine 116 = .ok (.iconst 3, 1) := by decide +kernel
theorem dL_fine_117 : decode cL_fine 117 = .ok (.iload 6, 2) := by decide +kernel
theorem dL_fine_119 : decode cL_fine 119 = .ok (.iadd, 1) := by decide +kernel
theorem dL_fine_120 : decode cL_fine 120 = .ok (.iaload, 1) := by decide +kernel
theorem dL_fine_121 : decode cL_fine 121 = .ok (.istore 9, 2) := by decide +kernel
theorem dL_fine_123 : decode cL_fine 123 = .ok (.aload_n 2, 1) := by decide +kernel
theorem dL_fine_124 : decode cL_fine 124 = .ok (.iconst 3, 1) := by decide +kernel
theorem dL_fine_125 : decode cL_fine 125 = .ok (.iload 6, 2) := by decide +kernel
theorem dL_fine_127 : decode cL_fine 127 = .ok (.iadd, 1) := by decide +kernel
theorem dL_fine_128 : decode cL_fine 128 = .ok (.dup2, 1) := by decide +kernel
theorem dL_fine_129 : decode cL_fine 129 = .ok (.iaload, 1) := by decide +kernel
theorem dL_fine_130 : decode cL_fine 130 = .ok (.iload 9, 2) := by decide +kernel
theorem dL_fine_132 : decode cL_fine 132 = .ok (.isub, 1) := by decide +kernel
theorem dL_fine_133 : decode cL_fine 133 = .ok (.iastore, 1) := by decide +kernel
theorem dL_fine_134 : decode cL_fine 134 = .ok (.iload 8, 2) := by decide +kernel
theorem dL_fine_136 : decode cL_fine 136 = .ok (.iload 9, 2) := by decide +kernel
theorem dL_fine_138 : decode cL_fine 138 = .ok (.isub, 1) := by decide +kernel
theorem dL_fine_139 : decode cL_fine 139 = .ok (.ireturn, 1) := by decide +kernel
set_option maxRecDepth 20000 in
theorem ggL_worst_L_suspicion : GoodIn wsL_worst wsL_suspicion := goodIn_r _ [4, 5, 6, 3, 7, 8, 9, 10] (by decide +kernel) (by decide +kernel)
set_option maxRecDepth 20000 in
theorem gL_worst_L_suspicion : GoodIn wsL_worst (va_wsS RL 58 yL_suspicion wsL_suspicion) := goodIn_app (goodIn_of _ (by decide +kernel)) ggL_worst_L_suspicion
theorem dL_worst_0 : decode cL_worst 0 = .ok (.iconst (-1), 1) := by decide +kernel
theorem dL_worst_1 : decode cL_worst 1 = .ok (.istore 4, 2) := by decide +kernel
theorem dL_worst_3 : decode cL_worst 3 = .ok (.iconst 0, 1) := by decide +kernel
theorem dL_worst_4 : decode cL_worst 4 = .ok (.istore 5, 2) := by decide +kernel
theorem dL_worst_6 : decode cL_worst 6 = .ok (.iconst 1, 1) := by decide +kernel
theorem dL_worst_7 : decode cL_worst 7 = .ok (.istore 6, 2) := by decide +kernel
theorem dL_worst_9 : decode cL_worst 9 = .ok (.iload 6, 2) := by decide +kernel
theorem dL_worst_11 : decode cL_worst 11 = .ok (.bipush 24, 2) := by decide +kernel
theorem dL_worst_13 : decode cL_worst 13 = .ok (.if_icmp .ge 85, 3) := by decide +kernel
theorem dL_worst_16 : decode cL_worst 16 = .ok (.iload 6, 2) := by decide +kernel
theorem dL_worst_18 : decode cL_worst 18 = .ok (.bipush 10, 2) := by decide +kernel
theorem dL_worst_20 : decode cL_worst 20 = .ok (.idiv, 1) := by decide +kernel
theorem dL_worst_21 : decode cL_worst 21 = .ok (.istore 7, 2) := by decide +kernel
theorem dL_worst_23 : decode cL_worst 23 = .ok (.iload 6, 2) := by decide +kernel
theorem dL_worst_25 : decode cL_worst 25 = .ok (.bipush 10, 2) := by decide +kernel
theorem dL_worst_27 : decode cL_worst 27 = .ok (.irem, 1) := by decide +kernel
theorem dL_worst_28 : decode cL_worst 28 = .ok (.istore 8, 2) := by decide +kernel
theorem dL_worst_30 : decode cL_worst 30 = .ok (.iload 7, 2) := by decide +kernel
theorem dL_worst_32 : decode cL_worst 32 = .ok (.iload 8, 2) := by decide +kernel
theorem dL_worst_34 : decode cL_worst 34 = .ok (.if_icmp .ge 23, 3) := by decide +kernel
theorem dL_worst_37 : decode cL_worst 37 = .ok (.iload 8, 2) := by decide +kernel
theorem dL_worst_39 : decode cL_worst 39 = .ok (.iconst 4, 1) := by decide +kernel
theorem dL_worst_40 : decode cL_worst 40 = .ok (.if_icmp .ge 17, 3) := by decide +kernel
theorem dL_worst_43 : decode cL_worst 43 = .ok (.iload 7, 2) := by decide +kernel
theorem dL_worst_45 : decode cL_worst 45 = .ok (.iload 8, 2) := by decide +kernel
theorem dL_worst_47 : decode cL_worst 47 = .ok (.aload_n 0, 1) := by decide +kernel
theorem dL_worst_48 : decode cL_worst 48 = .ok (.aload_n 1, 1) := by decide +kernel
theorem dL_worst_49 : decode cL_worst 49 = .ok (.aload_n 2, 1) := by decide +kernel
theorem dL_worst_50 : decode cL_worst 50 = .ok (.aload_n 3, 1) := by decide +kernel
theorem dL_worst_51 : decode cL_worst 51 = .ok (.invokestatic 58, 3) := by decide +kernel
theorem dL_worst_54 : decode cL_worst 54 = .ok (.goto 4, 3) := by decide +kernel
theorem dL_worst_57 : decode cL_worst 57 = .ok (.iconst 0, 1) := by decide +kernel
theorem dL_worst_58 : decode cL_worst 58 = .ok (.istore 9, 2) := by decide +kernel
theorem dL_worst_60 : decode cL_worst 60 = .ok (.iload 9, 2) := by decide +kernel
theorem dL_worst_62 : decode cL_worst 62 = .ok (.iload 5, 2) := by decide +kernel
theorem dL_worst_64 : decode cL_worst 64 = .ok (.if_icmp .le 8, 3) := by decide +kernel
theorem dL_worst_67 : decode cL_worst 67 = .ok (.iload 6, 2) := by decide +kernel
theorem dL_worst_69 : decode cL_worst 69 = .ok (.goto 5, 3) := by decide +kernel
theorem dL_worst_72 : decode cL_worst 72 = .ok (.iload 4, 2) := by decide +kernel
theorem dL_worst_74 : decode cL_worst 74 = .ok (.istore 4, 2) := by decide +kernel
theorem dL_worst_76 : decode cL_worst 76 = .ok (.iload 9, 2) := by decide +kernel
theorem dL_worst_78 : decode cL_worst 78 = .ok (.iload 5, 2) := by decide +kernel
theorem dL_worst_80 : decode cL_worst 80 = .ok (.if_icmp .le 8, 3) := by decide +kernel
theorem dL_worst_83 : decode cL_worst 83 = .ok (.iload 9, 2) := by decide +kernel
theorem dL_worst_85 : decode cL_worst 85 = .ok (.goto 5, 3) := by decide +kernel
theorem dL_worst_88 : decode cL_worst 88 = .ok (.iload 5, 2) := by decide +kernel
theorem dL_worst_90 : decode cL_worst 90 = .ok (.istore 5, 2) := by decide +kernel
theorem dL_worst_92 : decode cL_worst 92 = .ok (.iinc 6 1, 3) := by decide +kernel
theorem dL_worst_95 : decode cL_worst 95 = .ok (.goto (-86), 3) := by decide +kernel
theorem dL_worst_98 : decode cL_worst 98 = .ok (.iload 4, 2) := by decide +kernel
theorem dL_worst_100 : decode cL_worst 100 = .ok (.ireturn, 1) := by decide +kernel
set_option maxRecDepth 20000 in
theorem ggL_isSo_X2_worst : GoodIn wsL_isSo wsX2_worst := goodIn_r _ [5, 6, 7, 8, 4, 9, 10, 11, 12, 13, 14, 15, 16, 17, 18, 19, 20, 21, 22, 23, 24, 25, 26, 27, 28, 29, 30, 31, 32, 33, 34, 35, 36, 37, 38, 39, 40, 41, 42, 43, 44, 45, 46, 47, 48, 49, 50, 51, 52, 53, 54, 55, 56, 57, 58, 59, 60, 61, 62, 154, 155, 156, 157, 158, 159, 160, 161, 162, 163, 164, 165] (by decide +kernel) (by decide +kernel)
set_option maxRecDepth 20000 in
theorem gL_isSo_X2_worst : GoodIn wsL_isSo (wsV RL 62 RX2 yX2_worst wsX2_worst) := goodIn_app (goodIn_of _ (by decide +kernel)) ggL_isSo_X2_worst
set_option maxRecDepth 20000 in
theorem ggL_isSo_L_worst : GoodIn wsL_isSo wsL_worst := goodIn_r _ [66, 67, 68, 65, 69, 70, 71, 72, 73, 74, 75] (by decide +kernel) (by decide +kernel)
set_option maxRecDepth 20000 in
theorem gL_isSo_L_worst : GoodIn wsL_isSo (va_wsS RL 66 yL_worst wsL_worst) := goodIn_app (goodIn_of _ (by decide +kernel)) ggL_isSo_L_worst
set_option maxRecDepth 20000 in
theorem ggL_isSo_X2_turnover : GoodIn wsL_isSo wsX2_turnover := goodIn_ca (goodIn_r _ [79, 80, 81, 82, 36, 4, 37, 83, 84, 85, 86, 10, 87, 88, 89, 22, 90, 24, 91, 29, 38, 39, 40, 41, 34, 154, 155, 156, 157, 158, 159, 160, 161, 162, 163, 164, 165] (by decide +kernel) (by decide +kernel)) (goodIn_sub (fun _ h => List.mem_cons_of_mem _ (List.mem_append_left _ (List.mem_append_right _ h))) (by decide +kernel))
set_option maxRecDepth 20000 in
theorem gL_isSo_X2_turnover : GoodIn wsL_isSo (wsV RL 69 RX2 yX2_turnover wsX2_turnover) := goodIn_app (goodIn_of _ (by decide +kernel)) ggL_isSo_X2_turnover
set_option maxRecDepth 20000 in
theorem ggL_isSo_L_turnover : GoodIn wsL_isSo wsL_turnover := goodIn_r _ [94] (by decide +kernel) (by decide +kernel)
set_option maxRecDepth 20000 in
theorem gL_isSo_L_turnover : GoodIn wsL_isSo (va_wsS RL 51 yL_turnover wsL_turnover) := goodIn_app (goodIn_of _ (by decide +kernel)) ggL_isSo_L_turnover
set_option maxRecDepth 20000 in
theorem ggL_isSo_X2_won : GoodIn wsL_isSo wsX2_won := goodIn_ca (goodIn_r _ [98, 80, 81, 10, 82, 36, 4, 37, 19, 20, 21, 22, 23, 24, 154, 155, 156, 157, 158, 159, 160, 161, 162, 163, 164, 165] (by decide +kernel) (by decide +kernel)) (goodIn_sub (fun _ h => List.mem_cons_of_mem _ (List.mem_append_left _ (List.mem_append_right _ h))) (by decide +kernel))
set_option maxRecDepth 20000 in
theorem gL_isSo_X2_won : GoodIn wsL_isSo (wsV RL 71 RX2 yX2_won wsX2_won) := goodIn_app (goodIn_of _ (by decide +kernel)) ggL_isSo_X2_won
set_option maxRecDepth 20000 in
theorem ggL_isSo_X2_suspicion : GoodIn wsL_isSo wsX2_suspicion := goodIn_ca (goodIn_r _ [102, 80, 81, 103, 104, 4, 105, 82, 36, 37, 6, 7, 8, 9, 10, 11, 12, 13, 14, 15, 16, 17, 18, 19, 20, 21, 22, 23, 24, 25, 26, 27, 28, 29, 30, 31, 32, 33, 34, 35, 38, 39, 40, 41, 42, 43, 44, 45, 46, 47, 48, 49, 50, 51, 52, 53, 54, 55, 56, 57, 58, 59, 60, 61, 62, 154, 155, 156, 157, 158, 159, 160, 161, 162, 163, 164, 165] (by decide +kernel) (by decide +kernel)) (goodIn_sub (fun _ h => List.mem_cons_of_mem _ (List.mem_append_left _ (List.mem_append_right _ h))) (by decide +kernel))
set_option maxRecDepth 20000 in
theorem gL_isSo_X2_suspicion : GoodIn wsL_isSo (wsV RL 74 RX2 yX2_suspicion wsX2_suspicion) := goodIn_app (goodIn_of _ (by decide +kernel)) ggL_isSo_X2_suspicion
set_option maxRecDepth 20000 in
theorem ggL_isSo_L_suspicion : GoodIn wsL_isSo wsL_suspicion := goodIn_r _ [69, 70, 71, 65, 72, 73, 74, 75] (by decide +kernel) (by decide +kernel)
set_option maxRecDepth 20000 in
theorem gL_isSo_L_suspicion : GoodIn wsL_isSo (va_wsS RL 58 yL_suspicion wsL_suspicion) := goodIn_app (goodIn_of _ (by decide +kernel)) ggL_isSo_L_suspicion
set_option maxRecDepth 20000 in
theorem ggL_isSo_X2_sign : GoodIn wsL_isSo wsX2_sign := goodIn_ca (goodIn_ca (goodIn_r _ [109, 110, 111, 80, 81, 15, 16, 17, 4, 18, 10, 103, 104, 105, 82, 36, 37, 11, 12, 13, 14, 19, 20, 21, 22, 23, 24, 25, 26, 27, 28, 29, 30, 31, 32, 33, 34, 35, 38, 39, 40, 41, 42, 43, 44, 45, 46, 47, 48, 49, 50, 51, 52, 53, 54, 55, 56, 57, 58, 59, 60, 61, 62, 154, 155, 156, 157, 158, 159, 160, 161, 162, 163, 164, 165] (by decide +kernel) (by decide +kernel)) (goodIn_sub (fun _ h => List.mem_cons_of_mem _ (List.mem_append_right _ h)) (by decide +kernel))) (goodIn_sub (fun _ h => List.mem_cons_of_mem _ (List.mem_append_left _ (List.mem_append_right _ h))) (by decide +kernel))
set_option maxRecDepth 20000 in
theorem gL_isSo_X2_sign : GoodIn wsL_isSo (wsV RL 76 RX2 yX2_sign wsX2_sign) := goodIn_app (goodIn_of _ (by decide +kernel)) ggL_isSo_X2_sign
set_option maxRecDepth 20000 in
theorem ggL_isSo_L_sign : GoodIn wsL_isSo wsL_sign := goodIn_r _ [72, 73, 74, 65, 75] (by decide +kernel) (by decide +kernel)
set_option maxRecDepth 20000 in
theorem gL_isSo_L_sign : GoodIn wsL_isSo (va_wsS RL 47 yL_sign wsL_sign) := goodIn_app (goodIn_of _ (by decide +kernel)) ggL_isSo_L_sign
set_option maxRecDepth 20000 in
theorem ggL_isSo_X2_matters : GoodIn wsL_isSo wsX2_matters := goodIn_ca (goodIn_r _ [115, 110, 111, 116, 117, 118, 4, 119, 120, 121, 122, 123, 124, 125, 126, 154, 155, 156, 157, 158, 159, 166, 167, 168, 169, 170, 171, 172, 173] (by decide +kernel) (by decide +kernel)) (goodIn_sub (fun _ h => List.mem_cons_of_mem _ (List.mem_append_right _ h)) (by decide +kernel))
set_option maxRecDepth 20000 in
theorem gL_isSo_X2_matters : GoodIn wsL_isSo (wsV RL 78 RX2 yX2_matters wsX2_matters) := goodIn_app (goodIn_of _ (by decide +kernel)) ggL_isSo_X2_matters
set_option maxRecDepth 20000 in
theorem ggL_isSo_L_bits : GoodIn wsL_isSo wsL_bits := goodIn_r _ [129] (by decide +kernel) (by decide +kernel)
set_option maxRecDepth 20000 in
theorem gL_isSo_L_bits : GoodIn wsL_isSo (va_wsS RL 55 yL_bits wsL_bits) := goodIn_app (goodIn_of _ (by decide +kernel)) ggL_isSo_L_bits
set_option maxRecDepth 20000 in
theorem ggL_isSo_X2_firstTeller : GoodIn wsL_isSo wsX2_firstTeller := goodIn_ca (goodIn_r _ [133, 110, 111, 116, 117, 118, 4, 119, 120, 134, 135, 136, 124, 137, 138, 154, 155, 156, 157, 158, 159, 166, 167, 168, 169, 170, 171, 172, 173] (by decide +kernel) (by decide +kernel)) (goodIn_sub (fun _ h => List.mem_cons_of_mem _ (List.mem_append_right _ h)) (by decide +kernel))
set_option maxRecDepth 20000 in
theorem gL_isSo_X2_firstTeller : GoodIn wsL_isSo (wsV RL 81 RX2 yX2_firstTeller wsX2_firstTeller) := goodIn_app (goodIn_of _ (by decide +kernel)) ggL_isSo_X2_firstTeller
set_option maxRecDepth 20000 in
theorem ggL_isSo_X2_fine : GoodIn wsL_isSo wsX2_fine := goodIn_ca (goodIn_ca (goodIn_r _ [142, 110, 111, 80, 81, 116, 117, 118, 4, 119, 120, 143, 144, 145, 124, 146, 147, 148, 149, 150, 151, 152, 153, 36, 37, 154, 155, 156, 157, 158, 159, 166, 167, 168, 169, 170, 171, 172, 173] (by decide +kernel) (by decide +kernel)) (goodIn_sub (fun _ h => List.mem_cons_of_mem _ (List.mem_append_right _ h)) (by decide +kernel))) (goodIn_sub (fun _ h => List.mem_cons_of_mem _ (List.mem_append_left _ (List.mem_append_right _ h))) (by decide +kernel))
set_option maxRecDepth 20000 in
theorem gL_isSo_X2_fine : GoodIn wsL_isSo (wsV RL 84 RX2 yX2_fine wsX2_fine) := goodIn_app (goodIn_of _ (by decide +kernel)) ggL_isSo_X2_fine
theorem dL_isSo_0 : decode cL_isSo 0 = .ok (.aload_n 0, 1) := by decide +kernel
theorem dL_isSo_1 : decode cL_isSo 1 = .ok (.invokevirtual 62, 3) := by decide +kernel
theorem dL_isSo_4 : decode cL_isSo 4 = .ok (.aload_n 1, 1) := by decide +kernel
theorem dL_isSo_5 : decode cL_isSo 5 = .ok (.aload_n 2, 1) := by decide +kernel
theorem dL_isSo_6 : decode cL_isSo 6 = .ok (.aload_n 3, 1) := by decide +kernel
theorem dL_isSo_7 : decode cL_isSo 7 = .ok (.aload 4, 2) := by decide +kernel
theorem dL_isSo_9 : decode cL_isSo 9 = .ok (.invokestatic 66, 3) := by decide +kernel
theorem dL_isSo_12 : decode cL_isSo 12 = .ok (.if_icmp .ne 7, 3) := by decide +kernel
theorem dL_isSo_15 : decode cL_isSo 15 = .ok (.iconst 1, 1) := by decide +kernel
theorem dL_isSo_16 : decode cL_isSo 16 = .ok (.goto 4, 3) := by decide +kernel
theorem dL_isSo_19 : decode cL_isSo 19 = .ok (.iconst 0, 1) := by decide +kernel
theorem dL_isSo_20 : decode cL_isSo 20 = .ok (.istore 7, 2) := by decide +kernel
theorem dL_isSo_22 : decode cL_isSo 22 = .ok (.iconst 0, 1) := by decide +kernel
theorem dL_isSo_23 : decode cL_isSo 23 = .ok (.istore 8, 2) := by decide +kernel
theorem dL_isSo_25 : decode cL_isSo 25 = .ok (.iload 8, 2) := by decide +kernel
theorem dL_isSo_27 : decode cL_isSo 27 = .ok (.iconst 4, 1) := by decide +kernel
theorem dL_isSo_28 : decode cL_isSo 28 = .ok (.if_icmp .ge 221, 3) := by decide +kernel
theorem dL_isSo_31 : decode cL_isSo 31 = .ok (.iload 7, 2) := by decide +kernel
theorem dL_isSo_33 : decode cL_isSo 33 = .ok (.ifCond .eq 216, 3) := by decide +kernel
theorem dL_isSo_36 : decode cL_isSo 36 = .ok (.iconst 0, 1) := by decide +kernel
theorem dL_isSo_37 : decode cL_isSo 37 = .ok (.istore 9, 2) := by decide +kernel
theorem dL_isSo_39 : decode cL_isSo 39 = .ok (.iconst 0, 1) := by decide +kernel
theorem dL_isSo_40 : decode cL_isSo 40 = .ok (.istore 10, 2) := by decide +kernel
theorem dL_isSo_42 : decode cL_isSo 42 = .ok (.iload 10, 2) := by decide +kernel
theorem dL_isSo_44 : decode cL_isSo 44 = .ok (.aload_n 1, 1) := by decide +kernel
theorem dL_isSo_45 : decode cL_isSo 45 = .ok (.iconst 0, 1) := by decide +kernel
theorem dL_isSo_46 : decode cL_isSo 46 = .ok (.iaload, 1) := by decide +kernel
theorem dL_isSo_47 : decode cL_isSo 47 = .ok (.if_icmp .ge 42, 3) := by decide +kernel
theorem dL_isSo_50 : decode cL_isSo 50 = .ok (.iload 9, 2) := by decide +kernel
theorem dL_isSo_52 : decode cL_isSo 52 = .ok (.aload_n 2, 1) := by decide +kernel
theorem dL_isSo_53 : decode cL_isSo 53 = .ok (.iconst 4, 1) := by decide +kernel
theorem dL_isSo_54 : decode cL_isSo 54 = .ok (.iload 10, 2) := by decide +kernel
theorem dL_isSo_56 : decode cL_isSo 56 = .ok (.imul, 1) := by decide +kernel
theorem dL_isSo_57 : decode cL_isSo 57 = .ok (.iaload, 1) := by decide +kernel
theorem dL_isSo_58 : decode cL_isSo 58 = .ok (.iconst 1, 1) := by decide +kernel
theorem dL_isSo_59 : decode cL_isSo 59 = .ok (.if_icmp .ne 20, 3) := by decide +kernel
theorem dL_isSo_62 : decode cL_isSo 62 = .ok (.aload_n 2, 1) := by decide +kernel
theorem dL_isSo_63 : decode cL_isSo 63 = .ok (.iconst 4, 1) := by decide +kernel
theorem dL_isSo_64 : decode cL_isSo 64 = .ok (.iload 10, 2) := by decide +kernel
theorem dL_isSo_66 : decode cL_isSo 66 = .ok (.imul, 1) := by decide +kernel
theorem dL_isSo_67 : decode cL_isSo 67 = .ok (.iconst 1, 1) := by decide +kernel
theorem dL_isSo_68 : decode cL_isSo 68 = .ok (.iadd, 1) := by decide +kernel
theorem dL_isSo_69 : decode cL_isSo 69 = .ok (.iaload, 1) := by decide +kernel
theorem dL_isSo_70 : decode cL_isSo 70 = .ok (.iload 8, 2) := by decide +kernel
theorem dL_isSo_72 : decode cL_isSo 72 = .ok (.if_icmp .ne 7, 3) := by decide +kernel
theorem dL_isSo_75 : decode cL_isSo 75 = .ok (.iconst 1, 1) := by decide +kernel
theorem dL_isSo_76 : decode cL_isSo 76 = .ok (.goto 4, 3) := by decide +kernel
theorem dL_isSo_79 : decode cL_isSo 79 = .ok (.iconst 0, 1) := by decide +kernel
theorem dL_isSo_80 : decode cL_isSo 80 = .ok (.iadd, 1) := by decide +kernel
theorem dL_isSo_81 : decode cL_isSo 81 = .ok (.istore 9, 2) := by decide +kernel
theorem dL_isSo_83 : decode cL_isSo 83 = .ok (.iinc 10 1, 3) := by decide +kernel
theorem dL_isSo_86 : decode cL_isSo 86 = .ok (.goto (-44), 3) := by decide +kernel
theorem dL_isSo_89 : decode cL_isSo 89 = .ok (.aload_n 0, 1) := by decide +kernel
theorem dL_isSo_90 : decode cL_isSo 90 = .ok (.iload 8, 2) := by decide +kernel
theorem dL_isSo_92 : decode cL_isSo 92 = .ok (.invokevirtual 69, 3) := by decide +kernel
theorem dL_isSo_95 : decode cL_isSo 95 = .ok (.iload 8, 2) := by decide +kernel
theorem dL_isSo_97 : decode cL_isSo 97 = .ok (.aload_n 1, 1) := by decide +kernel
theorem dL_isSo_98 : decode cL_isSo 98 = .ok (.aload_n 2, 1) := by decide +kernel
theorem dL_isSo_99 : decode cL_isSo 99 = .ok (.aload_n 3, 1) := by decide +kernel
theorem dL_isSo_100 : decode cL_isSo 100 = .ok (.invokestatic 51, 3) := by decide +kernel
theorem dL_isSo_103 : decode cL_isSo 103 = .ok (.if_icmp .ne 18, 3) := by decide +kernel
theorem dL_isSo_106 : decode cL_isSo 106 = .ok (.aload_n 0, 1) := by decide +kernel
theorem dL_isSo_107 : decode cL_isSo 107 = .ok (.iload 8, 2) := by decide +kernel
theorem dL_isSo_109 : decode cL_isSo 109 = .ok (.invokevirtual 71, 3) := by decide +kernel
theorem dL_isSo_112 : decode cL_isSo 112 = .ok (.iload 9, 2) := by decide +kernel
theorem dL_isSo_114 : decode cL_isSo 114 = .ok (.if_icmp .ne 7, 3) := by decide +kernel
theorem dL_isSo_117 : decode cL_isSo 117 = .ok (.iconst 1, 1) := by decide +kernel
theorem dL_isSo_118 : decode cL_isSo 118 = .ok (.goto 4, 3) := by decide +kernel
theorem dL_isSo_121 : decode cL_isSo 121 = .ok (.iconst 0, 1) := by decide +kernel
theorem dL_isSo_122 : decode cL_isSo 122 = .ok (.istore 7, 2) := by decide +kernel
theorem dL_isSo_124 : decode cL_isSo 124 = .ok (.iconst 0, 1) := by decide +kernel
theorem dL_isSo_125 : decode cL_isSo 125 = .ok (.istore 10, 2) := by decide +kernel
theorem dL_isSo_127 : decode cL_isSo 127 = .ok (.iload 10, 2) := by decide +kernel
theorem dL_isSo_129 : decode cL_isSo 129 = .ok (.iconst 4, 1) := by decide +kernel
theorem dL_isSo_130 : decode cL_isSo 130 = .ok (.if_icmp .ge 113, 3) := by decide +kernel
theorem dL_isSo_133 : decode cL_isSo 133 = .ok (.iload 7, 2) := by decide +kernel
theorem dL_isSo_135 : decode cL_isSo 135 = .ok (.ifCond .eq 108, 3) := by decide +kernel
theorem dL_isSo_138 : decode cL_isSo 138 = .ok (.iload 10, 2) := by decide +kernel
theorem dL_isSo_140 : decode cL_isSo 140 = .ok (.iload 8, 2) := by decide +kernel
theorem dL_isSo_142 : decode cL_isSo 142 = .ok (.if_icmp .eq 26, 3) := by decide +kernel
theorem dL_isSo_145 : decode cL_isSo 145 = .ok (.aload_n 0, 1) := by decide +kernel
theorem dL_isSo_146 : decode cL_isSo 146 = .ok (.iload 8, 2) := by decide +kernel
theorem dL_isSo_148 : decode cL_isSo 148 = .ok (.iload 10, 2) := by decide +kernel
theorem dL_isSo_150 : decode cL_isSo 150 = .ok (.invokevirtual 74, 3) := by decide +kernel
theorem dL_isSo_153 : decode cL_isSo 153 = .ok (.iload 8, 2) := by decide +kernel
theorem dL_isSo_155 : decode cL_isSo 155 = .ok (.iload 10, 2) := by decide +kernel
theorem dL_isSo_157 : decode cL_isSo 157 = .ok (.aload_n 1, 1) := by decide +kernel
theorem dL_isSo_158 : decode cL_isSo 158 = .ok (.aload_n 2, 1) := by decide +kernel
theorem dL_isSo_159 : decode cL_isSo 159 = .ok (.aload_n 3, 1) := by decide +kernel
theorem dL_isSo_160 : decode cL_isSo 160 = .ok (.aload 4, 2) := by decide +kernel
theorem dL_isSo_162 : decode cL_isSo 162 = .ok (.invokestatic 58, 3) := by decide +kernel
theorem dL_isSo_165 : decode cL_isSo 165 = .ok (.if_icmp .ne 7, 3) := by decide +kernel
theorem dL_isSo_168 : decode cL_isSo 168 = .ok (.iconst 1, 1) := by decide +kernel
theorem dL_isSo_169 : decode cL_isSo 169 = .ok (.goto 4, 3) := by decide +kernel
theorem dL_isSo_172 : decode cL_isSo 172 = .ok (.iconst 0, 1) := by decide +kernel
theorem dL_isSo_173 : decode cL_isSo 173 = .ok (.istore 7, 2) := by decide +kernel
theorem dL_isSo_175 : decode cL_isSo 175 = .ok (.iconst 0, 1) := by decide +kernel
theorem dL_isSo_176 : decode cL_isSo 176 = .ok (.istore 11, 2) := by decide +kernel
theorem dL_isSo_178 : decode cL_isSo 178 = .ok (.iload 11, 2) := by decide +kernel
theorem dL_isSo_180 : decode cL_isSo 180 = .ok (.aload_n 1, 1) := by decide +kernel
theorem dL_isSo_181 : decode cL_isSo 181 = .ok (.iconst 0, 1) := by decide +kernel
theorem dL_isSo_182 : decode cL_isSo 182 = .ok (.iaload, 1) := by decide +kernel
theorem dL_isSo_183 : decode cL_isSo 183 = .ok (.if_icmp .ge 54, 3) := by decide +kernel
theorem dL_isSo_186 : decode cL_isSo 186 = .ok (.iload 7, 2) := by decide +kernel
theorem dL_isSo_188 : decode cL_isSo 188 = .ok (.ifCond .eq 49, 3) := by decide +kernel
theorem dL_isSo_191 : decode cL_isSo 191 = .ok (.iload 10, 2) := by decide +kernel
theorem dL_isSo_193 : decode cL_isSo 193 = .ok (.iload 8, 2) := by decide +kernel
theorem dL_isSo_195 : decode cL_isSo 195 = .ok (.if_icmp .eq 42, 3) := by decide +kernel
theorem dL_isSo_198 : decode cL_isSo 198 = .ok (.aload_n 0, 1) := by decide +kernel
theorem dL_isSo_199 : decode cL_isSo 199 = .ok (.iload 11, 2) := by decide +kernel
theorem dL_isSo_201 : decode cL_isSo 201 = .ok (.iload 8, 2) := by decide +kernel
theorem dL_isSo_203 : decode cL_isSo 203 = .ok (.iload 10, 2) := by decide +kernel
theorem dL_isSo_205 : decode cL_isSo 205 = .ok (.invokevirtual 76, 3) := by decide +kernel
theorem dL_isSo_208 : decode cL_isSo 208 = .ok (.iload 11, 2) := by decide +kernel
theorem dL_isSo_210 : decode cL_isSo 210 = .ok (.iload 8, 2) := by decide +kernel
theorem dL_isSo_212 : decode cL_isSo 212 = .ok (.iload 10, 2) := by decide +kernel
theorem dL_isSo_214 : decode cL_isSo 214 = .ok (.aload_n 2, 1) := by decide +kernel
theorem dL_isSo_215 : decode cL_isSo 215 = .ok (.aload_n 3, 1) := by decide +kernel
theorem dL_isSo_216 : decode cL_isSo 216 = .ok (.aload 4, 2) := by decide +kernel
theorem dL_isSo_218 : decode cL_isSo 218 = .ok (.invokestatic 47, 3) := by decide +kernel
theorem dL_isSo_221 : decode cL_isSo 221 = .ok (.if_icmp .ne 7, 3) := by decide +kernel
theorem dL_isSo_224 : decode cL_isSo 224 = .ok (.iconst 1, 1) := by decide +kernel
theorem dL_isSo_225 : decode cL_isSo 225 = .ok (.goto 4, 3) := by decide +kernel
theorem dL_isSo_228 : decode cL_isSo 228 = .ok (.iconst 0, 1) := by decide +kernel
theorem dL_isSo_229 : decode cL_isSo 229 = .ok (.istore 7, 2) := by decide +kernel
theorem dL_isSo_231 : decode cL_isSo 231 = .ok (.iinc 11 1, 3) := by decide +kernel
theorem dL_isSo_234 : decode cL_isSo 234 = .ok (.goto (-56), 3) := by decide +kernel
theorem dL_isSo_237 : decode cL_isSo 237 = .ok (.iinc 10 1, 3) := by decide +kernel
theorem dL_isSo_240 : decode cL_isSo 240 = .ok (.goto (-113), 3) := by decide +kernel
theorem dL_isSo_243 : decode cL_isSo 243 = .ok (.iinc 8 1, 3) := by decide +kernel
theorem dL_isSo_246 : decode cL_isSo 246 = .ok (.goto (-221), 3) := by decide +kernel
theorem dL_isSo_249 : decode cL_isSo 249 = .ok (.iconst 0, 1) := by decide +kernel
theorem dL_isSo_250 : decode cL_isSo 250 = .ok (.istore 8, 2) := by decide +kernel
theorem dL_isSo_252 : decode cL_isSo 252 = .ok (.iload 8, 2) := by decide +kernel
theorem dL_isSo_254 : decode cL_isSo 254 = .ok (.aload_n 1, 1) := by decide +kernel
theorem dL_isSo_255 : decode cL_isSo 255 = .ok (.iconst 2, 1) := by decide +kernel
theorem dL_isSo_256 : decode cL_isSo 256 = .ok (.iaload, 1) := by decide +kernel
theorem dL_isSo_257 : decode cL_isSo 257 = .ok (.if_icmp .ge 114, 3) := by decide +kernel
theorem dL_isSo_260 : decode cL_isSo 260 = .ok (.iload 7, 2) := by decide +kernel
theorem dL_isSo_262 : decode cL_isSo 262 = .ok (.ifCond .eq 109, 3) := by decide +kernel
theorem dL_isSo_265 : decode cL_isSo 265 = .ok (.aload_n 0, 1) := by decide +kernel
theorem dL_isSo_266 : decode cL_isSo 266 = .ok (.iload 8, 2) := by decide +kernel
theorem dL_isSo_268 : decode cL_isSo 268 = .ok (.invokevirtual 78, 3) := by decide +kernel
theorem dL_isSo_271 : decode cL_isSo 271 = .ok (.aload 5, 2) := by decide +kernel
theorem dL_isSo_273 : decode cL_isSo 273 = .ok (.bipush 8, 2) := by decide +kernel
theorem dL_isSo_275 : decode cL_isSo 275 = .ok (.iload 8, 2) := by decide +kernel
theorem dL_isSo_277 : decode cL_isSo 277 = .ok (.imul, 1) := by decide +kernel
theorem dL_isSo_278 : decode cL_isSo 278 = .ok (.iconst 2, 1) := by decide +kernel
theorem dL_isSo_279 : decode cL_isSo 279 = .ok (.iadd, 1) := by decide +kernel
theorem dL_isSo_280 : decode cL_isSo 280 = .ok (.iaload, 1) := by decide +kernel
theorem dL_isSo_281 : decode cL_isSo 281 = .ok (.invokestatic 55, 3) := by decide +kernel
theorem dL_isSo_284 : decode cL_isSo 284 = .ok (.if_icmp .ne 78, 3) := by decide +kernel
theorem dL_isSo_287 : decode cL_isSo 287 = .ok (.aload_n 0, 1) := by decide +kernel
theorem dL_isSo_288 : decode cL_isSo 288 = .ok (.iload 8, 2) := by decide +kernel
theorem dL_isSo_290 : decode cL_isSo 290 = .ok (.invokevirtual 81, 3) := by decide +kernel
theorem dL_isSo_293 : decode cL_isSo 293 = .ok (.aload 5, 2) := by decide +kernel
theorem dL_isSo_295 : decode cL_isSo 295 = .ok (.bipush 8, 2) := by decide +kernel
theorem dL_isSo_297 : decode cL_isSo 297 = .ok (.iload 8, 2) := by decide +kernel
theorem dL_isSo_299 : decode cL_isSo 299 = .ok (.imul, 1) := by decide +kernel
theorem dL_isSo_300 : decode cL_isSo 300 = .ok (.iconst 4, 1) := by decide +kernel
theorem dL_isSo_301 : decode cL_isSo 301 = .ok (.iadd, 1) := by decide +kernel
theorem dL_isSo_302 : decode cL_isSo 302 = .ok (.iaload, 1) := by decide +kernel
theorem dL_isSo_303 : decode cL_isSo 303 = .ok (.if_icmp .ne 59, 3) := by decide +kernel
theorem dL_isSo_306 : decode cL_isSo 306 = .ok (.aload_n 0, 1) := by decide +kernel
theorem dL_isSo_307 : decode cL_isSo 307 = .ok (.iload 8, 2) := by decide +kernel
theorem dL_isSo_309 : decode cL_isSo 309 = .ok (.aload 5, 2) := by decide +kernel
theorem dL_isSo_311 : decode cL_isSo 311 = .ok (.bipush 8, 2) := by decide +kernel
theorem dL_isSo_313 : decode cL_isSo 313 = .ok (.iload 8, 2) := by decide +kernel
theorem dL_isSo_315 : decode cL_isSo 315 = .ok (.imul, 1) := by decide +kernel
theorem dL_isSo_316 : decode cL_isSo 316 = .ok (.iaload, 1) := by decide +kernel
theorem dL_isSo_317 : decode cL_isSo 317 = .ok (.invokevirtual 84, 3) := by decide +kernel
theorem dL_isSo_320 : decode cL_isSo 320 = .ok (.aload 6, 2) := by decide +kernel
theorem dL_isSo_322 : decode cL_isSo 322 = .ok (.iconst 2, 1) := by decide +kernel
theorem dL_isSo_323 : decode cL_isSo 323 = .ok (.iload 8, 2) := by decide +kernel
theorem dL_isSo_325 : decode cL_isSo 325 = .ok (.imul, 1) := by decide +kernel
theorem dL_isSo_326 : decode cL_isSo 326 = .ok (.iaload, 1) := by decide +kernel
theorem dL_isSo_327 : decode cL_isSo 327 = .ok (.if_icmp .ne 35, 3) := by decide +kernel
theorem dL_isSo_330 : decode cL_isSo 330 = .ok (.aload_n 0, 1) := by decide +kernel
theorem dL_isSo_331 : decode cL_isSo 331 = .ok (.iload 8, 2) := by decide +kernel
theorem dL_isSo_333 : decode cL_isSo 333 = .ok (.aload 5, 2) := by decide +kernel
theorem dL_isSo_335 : decode cL_isSo 335 = .ok (.bipush 8, 2) := by decide +kernel
theorem dL_isSo_337 : decode cL_isSo 337 = .ok (.iload 8, 2) := by decide +kernel
theorem dL_isSo_339 : decode cL_isSo 339 = .ok (.imul, 1) := by decide +kernel
theorem dL_isSo_340 : decode cL_isSo 340 = .ok (.iconst 1, 1) := by decide +kernel
theorem dL_isSo_341 : decode cL_isSo 341 = .ok (.iadd, 1) := by decide +kernel
theorem dL_isSo_342 : decode cL_isSo 342 = .ok (.iaload, 1) := by decide +kernel
theorem dL_isSo_343 : decode cL_isSo 343 = .ok (.invokevirtual 84, 3) := by decide +kernel
theorem dL_isSo_346 : decode cL_isSo 346 = .ok (.aload 6, 2) := by decide +kernel
theorem dL_isSo_348 : decode cL_isSo 348 = .ok (.iconst 2, 1) := by decide +kernel
theorem dL_isSo_349 : decode cL_isSo 349 = .ok (.iload 8, 2) := by decide +kernel
theorem dL_isSo_351 : decode cL_isSo 351 = .ok (.imul, 1) := by decide +kernel
theorem dL_isSo_352 : decode cL_isSo 352 = .ok (.iconst 1, 1) := by decide +kernel
theorem dL_isSo_353 : decode cL_isSo 353 = .ok (.iadd, 1) := by decide +kernel
theorem dL_isSo_354 : decode cL_isSo 354 = .ok (.iaload, 1) := by decide +kernel
theorem dL_isSo_355 : decode cL_isSo 355 = .ok (.if_icmp .ne 7, 3) := by decide +kernel
theorem dL_isSo_358 : decode cL_isSo 358 = .ok (.iconst 1, 1) := by decide +kernel
theorem dL_isSo_359 : decode cL_isSo 359 = .ok (.goto 4, 3) := by decide +kernel
theorem dL_isSo_362 : decode cL_isSo 362 = .ok (.iconst 0, 1) := by decide +kernel
theorem dL_isSo_363 : decode cL_isSo 363 = .ok (.istore 7, 2) := by decide +kernel
theorem dL_isSo_365 : decode cL_isSo 365 = .ok (.iinc 8 1, 3) := by decide +kernel
theorem dL_isSo_368 : decode cL_isSo 368 = .ok (.goto (-116), 3) := by decide +kernel
theorem dL_isSo_371 : decode cL_isSo 371 = .ok (.iload 7, 2) := by decide +kernel
theorem dL_isSo_373 : decode cL_isSo 373 = .ok (.ifCond .eq 24, 3) := by decide +kernel
theorem dL_isSo_376 : decode cL_isSo 376 = .ok (.aload_n 0, 1) := by decide +kernel
theorem dL_isSo_377 : decode cL_isSo 377 = .ok (.bipush 6, 2) := by decide +kernel
theorem dL_isSo_379 : decode cL_isSo 379 = .ok (.invokevirtual 69, 3) := by decide +kernel
theorem dL_isSo_382 : decode cL_isSo 382 = .ok (.ifCond .ne 15, 3) := by decide +kernel
theorem dL_isSo_385 : decode cL_isSo 385 = .ok (.aload_n 0, 1) := by decide +kernel
theorem dL_isSo_386 : decode cL_isSo 386 = .ok (.iconst 5, 1) := by decide +kernel
theorem dL_isSo_387 : decode cL_isSo 387 = .ok (.invokevirtual 71, 3) := by decide +kernel
theorem dL_isSo_390 : decode cL_isSo 390 = .ok (.ifCond .ne 7, 3) := by decide +kernel
theorem dL_isSo_393 : decode cL_isSo 393 = .ok (.iconst 1, 1) := by decide +kernel
theorem dL_isSo_394 : decode cL_isSo 394 = .ok (.goto 4, 3) := by decide +kernel
theorem dL_isSo_397 : decode cL_isSo 397 = .ok (.iconst 0, 1) := by decide +kernel
theorem dL_isSo_398 : decode cL_isSo 398 = .ok (.ireturn, 1) := by decide +kernel
set_option maxRecDepth 20000 in
theorem ggL_tenders_L_low : GoodIn wsL_tenders wsL_low := goodIn_r _ [5, 6] (by decide +kernel) (by decide +kernel)
set_option maxRecDepth 20000 in
theorem gL_tenders_L_low : GoodIn wsL_tenders (va_wsS RL 87 yL_low wsL_low) := goodIn_app (goodIn_of _ (by decide +kernel)) ggL_tenders_L_low
set_option maxRecDepth 20000 in
theorem ggL_tenders_L_in : GoodIn wsL_tenders wsL_in := goodIn_r _ [9] (by decide +kernel) (by decide +kernel)
set_option maxRecDepth 20000 in
theorem gL_tenders_L_in : GoodIn wsL_tenders (va_wsS RL 41 yL_in wsL_in) := goodIn_app (goodIn_of _ (by decide +kernel)) ggL_tenders_L_in
set_option maxRecDepth 20000 in
theorem ggL_tenders_L_calls : GoodIn wsL_tenders wsL_calls := goodIn_ca (goodIn_ca (goodIn_ca (goodIn_r _ [12, 13, 14, 15, 16, 17, 18, 19, 20, 21, 22, 23, 24, 25, 26, 27, 28, 29, 30, 31, 32, 33, 34, 35, 36, 37, 38, 39, 40, 41, 42, 43, 44, 45, 46, 47, 48, 49, 50, 51, 52, 53, 54, 55, 56, 57, 58, 59, 60, 61, 62, 63, 64, 65, 66, 67, 68, 69, 70, 71, 72, 73, 74, 75, 76, 77, 78, 79, 80, 81, 82, 83, 84, 85, 86, 87, 88, 89, 90, 91, 92, 93, 94, 95, 96, 97, 98, 99, 100, 101, 102, 103, 104, 105, 106, 107, 108, 109, 110, 111, 112, 113, 114, 115, 116, 117, 118, 119, 120, 121, 122, 123, 124, 125, 126, 127, 128, 129, 130, 131, 132, 133, 134, 135, 136, 137, 138, 139, 140, 141, 142, 143, 144, 145, 146, 147, 148, 149, 150, 151, 152, 153, 154, 155, 156, 157, 158, 159, 160, 161, 162, 163, 164, 165, 166, 167, 168, 169, 170, 171, 172, 173, 174, 175, 176, 177, 178, 179, 180, 181, 182, 183, 184, 185, 186, 187, 188, 189, 190, 191, 192, 193, 194, 195, 196, 197, 198, 199, 200, 201, 202, 203, 204, 205, 206, 207, 208, 209, 210, 211, 212, 213, 214, 215, 216, 217, 218, 219, 220, 221, 222, 223, 224, 225, 226, 227, 228, 229, 230, 231, 232, 233, 234, 235, 236, 237, 238, 239, 240, 241, 242, 243, 244, 245, 246, 247, 248, 249] (by decide +kernel) (by decide +kernel)) (goodIn_sub (fun _ h => List.mem_cons_of_mem _ (List.mem_append_left _ (List.mem_append_left _ (List.mem_append_right _ h)))) (by decide +kernel))) (goodIn_sub (fun _ h => List.mem_cons_of_mem _ (List.mem_append_left _ (List.mem_append_right _ h))) (by decide +kernel))) (goodIn_sub (fun _ h => List.mem_cons_of_mem _ (List.mem_append_right _ h)) (by decide +kernel))
set_option maxRecDepth 20000 in
theorem gL_tenders_L_calls : GoodIn wsL_tenders (va_wsS RL 91 yL_calls wsL_calls) := goodIn_app (goodIn_of _ (by decide +kernel)) ggL_tenders_L_calls
theorem dL_tenders_0 : decode cL_tenders 0 = .ok (.iload_n 2, 1) := by decide +kernel
theorem dL_tenders_1 : decode cL_tenders 1 = .ok (.iload_n 2, 1) := by decide +kernel
theorem dL_tenders_2 : decode cL_tenders 2 = .ok (.bipush 9, 2) := by decide +kernel
theorem dL_tenders_4 : decode cL_tenders 4 = .ok (.ishr, 1) := by decide +kernel
theorem dL_tenders_5 : decode cL_tenders 5 = .ok (.iconst 3, 1) := by decide +kernel
theorem dL_tenders_6 : decode cL_tenders 6 = .ok (.invokestatic 87, 3) := by decide +kernel
theorem dL_tenders_9 : decode cL_tenders 9 = .ok (.ifCond .le 14, 3) := by decide +kernel
theorem dL_tenders_12 : decode cL_tenders 12 = .ok (.aload_n 3, 1) := by decide +kernel
theorem dL_tenders_13 : decode cL_tenders 13 = .ok (.iconst 0, 1) := by decide +kernel
theorem dL_tenders_14 : decode cL_tenders 14 = .ok (.iaload, 1) := by decide +kernel
theorem dL_tenders_15 : decode cL_tenders 15 = .ok (.iconst 2, 1) := by decide +kernel
theorem dL_tenders_16 : decode cL_tenders 16 = .ok (.if_icmp .le 7, 3) := by decide +kernel
theorem dL_tenders_19 : decode cL_tenders 19 = .ok (.iconst 3, 1) := by decide +kernel
theorem dL_tenders_20 : decode cL_tenders 20 = .ok (.goto 6, 3) := by decide +kernel
theorem dL_tenders_23 : decode cL_tenders 23 = .ok (.aload_n 3, 1) := by decide +kernel
theorem dL_tenders_24 : decode cL_tenders 24 = .ok (.iconst 0, 1) := by decide +kernel
theorem dL_tenders_25 : decode cL_tenders 25 = .ok (.iaload, 1) := by decide +kernel
theorem dL_tenders_26 : decode cL_tenders 26 = .ok (.invokestatic 87, 3) := by decide +kernel
theorem dL_tenders_29 : decode cL_tenders 29 = .ok (.istore 7, 2) := by decide +kernel
theorem dL_tenders_31 : decode cL_tenders 31 = .ok (.iload_n 2, 1) := by decide +kernel
theorem dL_tenders_32 : decode cL_tenders 32 = .ok (.bipush 9, 2) := by decide +kernel
theorem dL_tenders_34 : decode cL_tenders 34 = .ok (.ishr, 1) := by decide +kernel
theorem dL_tenders_35 : decode cL_tenders 35 = .ok (.iconst 3, 1) := by decide +kernel
theorem dL_tenders_36 : decode cL_tenders 36 = .ok (.invokestatic 87, 3) := by decide +kernel
theorem dL_tenders_39 : decode cL_tenders 39 = .ok (.ifCond .le 14, 3) := by decide +kernel
theorem dL_tenders_42 : decode cL_tenders 42 = .ok (.aload_n 3, 1) := by decide +kernel
theorem dL_tenders_43 : decode cL_tenders 43 = .ok (.iconst 0, 1) := by decide +kernel
theorem dL_tenders_44 : decode cL_tenders 44 = .ok (.iaload, 1) := by decide +kernel
theorem dL_tenders_45 : decode cL_tenders 45 = .ok (.iconst 1, 1) := by decide +kernel
theorem dL_tenders_46 : decode cL_tenders 46 = .ok (.isub, 1) := by decide +kernel
theorem dL_tenders_47 : decode cL_tenders 47 = .ok (.iload 7, 2) := by decide +kernel
theorem dL_tenders_49 : decode cL_tenders 49 = .ok (.isub, 1) := by decide +kernel
theorem dL_tenders_50 : decode cL_tenders 50 = .ok (.goto 5, 3) := by decide +kernel
theorem dL_tenders_53 : decode cL_tenders 53 = .ok (.iload 7, 2) := by decide +kernel
theorem dL_tenders_55 : decode cL_tenders 55 = .ok (.istore 7, 2) := by decide +kernel
theorem dL_tenders_57 : decode cL_tenders 57 = .ok (.iload_n 2, 1) := by decide +kernel
theorem dL_tenders_58 : decode cL_tenders 58 = .ok (.iconst 4, 1) := by decide +kernel
theorem dL_tenders_59 : decode cL_tenders 59 = .ok (.ishr, 1) := by decide +kernel
theorem dL_tenders_60 : decode cL_tenders 60 = .ok (.iconst 4, 1) := by decide +kernel
theorem dL_tenders_61 : decode cL_tenders 61 = .ok (.invokestatic 87, 3) := by decide +kernel
theorem dL_tenders_64 : decode cL_tenders 64 = .ok (.istore 8, 2) := by decide +kernel
theorem dL_tenders_66 : decode cL_tenders 66 = .ok (.aload 4, 2) := by decide +kernel
theorem dL_tenders_68 : decode cL_tenders 68 = .ok (.iconst 4, 1) := by decide +kernel
theorem dL_tenders_69 : decode cL_tenders 69 = .ok (.iload 7, 2) := by decide +kernel
theorem dL_tenders_71 : decode cL_tenders 71 = .ok (.imul, 1) := by decide +kernel
theorem dL_tenders_72 : decode cL_tenders 72 = .ok (.iaload, 1) := by decide +kernel
theorem dL_tenders_73 : decode cL_tenders 73 = .ok (.ifCond .ne 7, 3) := by decide +kernel
theorem dL_tenders_76 : decode cL_tenders 76 = .ok (.iconst 1, 1) := by decide +kernel
theorem dL_tenders_77 : decode cL_tenders 77 = .ok (.goto 4, 3) := by decide +kernel
theorem dL_tenders_80 : decode cL_tenders 80 = .ok (.iconst 0, 1) := by decide +kernel
theorem dL_tenders_81 : decode cL_tenders 81 = .ok (.istore 9, 2) := by decide +kernel
theorem dL_tenders_83 : decode cL_tenders 83 = .ok (.iload_n 1, 1) := by decide +kernel
theorem dL_tenders_84 : decode cL_tenders 84 = .ok (.iconst 5, 1) := by decide +kernel
theorem dL_tenders_85 : decode cL_tenders 85 = .ok (.if_icmp .ge 184, 3) := by decide +kernel
theorem dL_tenders_88 : decode cL_tenders 88 = .ok (.iload_n 2, 1) := by decide +kernel
theorem dL_tenders_89 : decode cL_tenders 89 = .ok (.bipush 12, 2) := by decide +kernel
theorem dL_tenders_91 : decode cL_tenders 91 = .ok (.ishr, 1) := by decide +kernel
theorem dL_tenders_92 : decode cL_tenders 92 = .ok (.iconst 4, 1) := by decide +kernel
theorem dL_tenders_93 : decode cL_tenders 93 = .ok (.invokestatic 87, 3) := by decide +kernel
theorem dL_tenders_96 : decode cL_tenders 96 = .ok (.ifCond .ne 17, 3) := by decide +kernel
theorem dL_tenders_99 : decode cL_tenders 99 = .ok (.iconst 1, 1) := by decide +kernel
theorem dL_tenders_100 : decode cL_tenders 100 = .ok (.iload_n 2, 1) := by decide +kernel
theorem dL_tenders_101 : decode cL_tenders 101 = .ok (.bipush 6, 2) := by decide +kernel
theorem dL_tenders_103 : decode cL_tenders 103 = .ok (.ishr, 1) := by decide +kernel
theorem dL_tenders_104 : decode cL_tenders 104 = .ok (.ldc 90, 2) := by decide +kernel
theorem dL_tenders_106 : decode cL_tenders 106 = .ok (.invokestatic 87, 3) := by decide +kernel
theorem dL_tenders_109 : decode cL_tenders 109 = .ok (.iadd, 1) := by decide +kernel
theorem dL_tenders_110 : decode cL_tenders 110 = .ok (.goto 16, 3) := by decide +kernel
theorem dL_tenders_113 : decode cL_tenders 113 = .ok (.sipush 1000, 3) := by decide +kernel
theorem dL_tenders_116 : decode cL_tenders 116 = .ok (.iload_n 2, 1) := by decide +kernel
theorem dL_tenders_117 : decode cL_tenders 117 = .ok (.bipush 6, 2) := by decide +kernel
theorem dL_tenders_119 : decode cL_tenders 119 = .ok (.ishr, 1) := by decide +kernel
theorem dL_tenders_120 : decode cL_tenders 120 = .ok (.bipush 80, 2) := by decide +kernel
theorem dL_tenders_122 : decode cL_tenders 122 = .ok (.invokestatic 87, 3) := by decide +kernel
theorem dL_tenders_125 : decode cL_tenders 125 = .ok (.iadd, 1) := by decide +kernel
theorem dL_tenders_126 : decode cL_tenders 126 = .ok (.istore 10, 2) := by decide +kernel
theorem dL_tenders_128 : decode cL_tenders 128 = .ok (.iload 9, 2) := by decide +kernel
theorem dL_tenders_130 : decode cL_tenders 130 = .ok (.ifCond .eq 20, 3) := by decide +kernel
theorem dL_tenders_133 : decode cL_tenders 133 = .ok (.aload 5, 2) := by decide +kernel
theorem dL_tenders_135 : decode cL_tenders 135 = .ok (.iconst 4, 1) := by decide +kernel
theorem dL_tenders_136 : decode cL_tenders 136 = .ok (.iload 7, 2) := by decide +kernel
theorem dL_tenders_138 : decode cL_tenders 138 = .ok (.imul, 1) := by decide +kernel
theorem dL_tenders_139 : decode cL_tenders 139 = .ok (.iload 8, 2) := by decide +kernel
theorem dL_tenders_141 : decode cL_tenders 141 = .ok (.iadd, 1) := by decide +kernel
theorem dL_tenders_142 : decode cL_tenders 142 = .ok (.iaload, 1) := by decide +kernel
theorem dL_tenders_143 : decode cL_tenders 143 = .ok (.ifCond .ne 7, 3) := by decide +kernel
theorem dL_tenders_146 : decode cL_tenders 146 = .ok (.iconst 1, 1) := by decide +kernel
theorem dL_tenders_147 : decode cL_tenders 147 = .ok (.goto 4, 3) := by decide +kernel
theorem dL_tenders_150 : decode cL_tenders 150 = .ok (.iconst 0, 1) := by decide +kernel
theorem dL_tenders_151 : decode cL_tenders 151 = .ok (.istore 11, 2) := by decide +kernel
theorem dL_tenders_153 : decode cL_tenders 153 = .ok (.iload 11, 2) := by decide +kernel
theorem dL_tenders_155 : decode cL_tenders 155 = .ok (.ifCond .eq 7, 3) := by decide +kernel
theorem dL_tenders_158 : decode cL_tenders 158 = .ok (.iconst 1, 1) := by decide +kernel
theorem dL_tenders_159 : decode cL_tenders 159 = .ok (.goto 5, 3) := by decide +kernel
theorem dL_tenders_162 : decode cL_tenders 162 = .ok (.bipush (-3), 2) := by decide +kernel
theorem dL_tenders_164 : decode cL_tenders 164 = .ok (.istore 12, 2) := by decide +kernel
theorem dL_tenders_166 : decode cL_tenders 166 = .ok (.aload 5, 2) := by decide +kernel
theorem dL_tenders_168 : decode cL_tenders 168 = .ok (.iconst 4, 1) := by decide +kernel
theorem dL_tenders_169 : decode cL_tenders 169 = .ok (.iload 7, 2) := by decide +kernel
theorem dL_tenders_171 : decode cL_tenders 171 = .ok (.imul, 1) := by decide +kernel
theorem dL_tenders_172 : decode cL_tenders 172 = .ok (.iload 8, 2) := by decide +kernel
theorem dL_tenders_174 : decode cL_tenders 174 = .ok (.iadd, 1) := by decide +kernel
theorem dL_tenders_175 : decode cL_tenders 175 = .ok (.iload 11, 2) := by decide +kernel
theorem dL_tenders_177 : decode cL_tenders 177 = .ok (.ifCond .eq 8, 3) := by decide +kernel
theorem dL_tenders_180 : decode cL_tenders 180 = .ok (.iload 10, 2) := by decide +kernel
theorem dL_tenders_182 : decode cL_tenders 182 = .ok (.goto 13, 3) := by decide +kernel
theorem dL_tenders_185 : decode cL_tenders 185 = .ok (.aload 5, 2) := by decide +kernel
theorem dL_tenders_187 : decode cL_tenders 187 = .ok (.iconst 4, 1) := by decide +kernel
theorem dL_tenders_188 : decode cL_tenders 188 = .ok (.iload 7, 2) := by decide +kernel
theorem dL_tenders_190 : decode cL_tenders 190 = .ok (.imul, 1) := by decide +kernel
theorem dL_tenders_191 : decode cL_tenders 191 = .ok (.iload 8, 2) := by decide +kernel
theorem dL_tenders_193 : decode cL_tenders 193 = .ok (.iadd, 1) := by decide +kernel
theorem dL_tenders_194 : decode cL_tenders 194 = .ok (.iaload, 1) := by decide +kernel
theorem dL_tenders_195 : decode cL_tenders 195 = .ok (.iastore, 1) := by decide +kernel
theorem dL_tenders_196 : decode cL_tenders 196 = .ok (.iconst 0, 1) := by decide +kernel
theorem dL_tenders_197 : decode cL_tenders 197 = .ok (.istore 13, 2) := by decide +kernel
theorem dL_tenders_199 : decode cL_tenders 199 = .ok (.iload 13, 2) := by decide +kernel
theorem dL_tenders_201 : decode cL_tenders 201 = .ok (.iconst 4, 1) := by decide +kernel
theorem dL_tenders_202 : decode cL_tenders 202 = .ok (.if_icmp .ge 45, 3) := by decide +kernel
theorem dL_tenders_205 : decode cL_tenders 205 = .ok (.iload 11, 2) := by decide +kernel
theorem dL_tenders_207 : decode cL_tenders 207 = .ok (.ifCond .eq 40, 3) := by decide +kernel
theorem dL_tenders_210 : decode cL_tenders 210 = .ok (.iload 12, 2) := by decide +kernel
theorem dL_tenders_212 : decode cL_tenders 212 = .ok (.iload 13, 2) := by decide +kernel
theorem dL_tenders_214 : decode cL_tenders 214 = .ok (.iload 8, 2) := by decide +kernel
theorem dL_tenders_216 : decode cL_tenders 216 = .ok (.if_icmp .eq 21, 3) := by decide +kernel
theorem dL_tenders_219 : decode cL_tenders 219 = .ok (.iload 7, 2) := by decide +kernel
theorem dL_tenders_221 : decode cL_tenders 221 = .ok (.iload 13, 2) := by decide +kernel
theorem dL_tenders_223 : decode cL_tenders 223 = .ok (.aload 5, 2) := by decide +kernel
theorem dL_tenders_225 : decode cL_tenders 225 = .ok (.aload 6, 2) := by decide +kernel
theorem dL_tenders_227 : decode cL_tenders 227 = .ok (.invokestatic 41, 3) := by decide +kernel
theorem dL_tenders_230 : decode cL_tenders 230 = .ok (.ifCond .eq 7, 3) := by decide +kernel
theorem dL_tenders_233 : decode cL_tenders 233 = .ok (.iconst 1, 1) := by decide +kernel
theorem dL_tenders_234 : decode cL_tenders 234 = .ok (.goto 4, 3) := by decide +kernel
theorem dL_tenders_237 : decode cL_tenders 237 = .ok (.iconst 0, 1) := by decide +kernel
theorem dL_tenders_238 : decode cL_tenders 238 = .ok (.iadd, 1) := by decide +kernel
theorem dL_tenders_239 : decode cL_tenders 239 = .ok (.istore 12, 2) := by decide +kernel
theorem dL_tenders_241 : decode cL_tenders 241 = .ok (.iinc 13 1, 3) := by decide +kernel
theorem dL_tenders_244 : decode cL_tenders 244 = .ok (.goto (-45), 3) := by decide +kernel
theorem dL_tenders_247 : decode cL_tenders 247 = .ok (.aload_n 0, 1) := by decide +kernel
theorem dL_tenders_248 : decode cL_tenders 248 = .ok (.iconst 0, 1) := by decide +kernel
theorem dL_tenders_249 : decode cL_tenders 249 = .ok (.iload 7, 2) := by decide +kernel
theorem dL_tenders_251 : decode cL_tenders 251 = .ok (.iload 8, 2) := by decide +kernel
theorem dL_tenders_253 : decode cL_tenders 253 = .ok (.iload 10, 2) := by decide +kernel
theorem dL_tenders_255 : decode cL_tenders 255 = .ok (.invokestatic 91, 3) := by decide +kernel
theorem dL_tenders_258 : decode cL_tenders 258 = .ok (.iload 12, 2) := by decide +kernel
theorem dL_tenders_260 : decode cL_tenders 260 = .ok (.if_icmp .ne 7, 3) := by decide +kernel
theorem dL_tenders_263 : decode cL_tenders 263 = .ok (.iconst 1, 1) := by decide +kernel
theorem dL_tenders_264 : decode cL_tenders 264 = .ok (.goto 4, 3) := by decide +kernel
theorem dL_tenders_267 : decode cL_tenders 267 = .ok (.iconst 0, 1) := by decide +kernel
theorem dL_tenders_268 : decode cL_tenders 268 = .ok (.ireturn, 1) := by decide +kernel
theorem dL_tenders_269 : decode cL_tenders 269 = .ok (.iload_n 1, 1) := by decide +kernel
theorem dL_tenders_270 : decode cL_tenders 270 = .ok (.iconst 5, 1) := by decide +kernel
theorem dL_tenders_271 : decode cL_tenders 271 = .ok (.if_icmp .ne 81, 3) := by decide +kernel
theorem dL_tenders_274 : decode cL_tenders 274 = .ok (.iload 9, 2) := by decide +kernel
theorem dL_tenders_276 : decode cL_tenders 276 = .ok (.ifCond .eq 30, 3) := by decide +kernel
theorem dL_tenders_279 : decode cL_tenders 279 = .ok (.iload 7, 2) := by decide +kernel
theorem dL_tenders_281 : decode cL_tenders 281 = .ok (.iload 8, 2) := by decide +kernel
theorem dL_tenders_283 : decode cL_tenders 283 = .ok (.aload 5, 2) := by decide +kernel
theorem dL_tenders_285 : decode cL_tenders 285 = .ok (.aload 6, 2) := by decide +kernel
theorem dL_tenders_287 : decode cL_tenders 287 = .ok (.invokestatic 41, 3) := by decide +kernel
theorem dL_tenders_290 : decode cL_tenders 290 = .ok (.ifCond .eq 16, 3) := by decide +kernel
theorem dL_tenders_293 : decode cL_tenders 293 = .ok (.aload 5, 2) := by decide +kernel
theorem dL_tenders_295 : decode cL_tenders 295 = .ok (.iconst 4, 1) := by decide +kernel
theorem dL_tenders_296 : decode cL_tenders 296 = .ok (.iload 7, 2) := by decide +kernel
theorem dL_tenders_298 : decode cL_tenders 298 = .ok (.imul, 1) := by decide +kernel
theorem dL_tenders_299 : decode cL_tenders 299 = .ok (.iload 8, 2) := by decide +kernel
theorem dL_tenders_301 : decode cL_tenders 301 = .ok (.iadd, 1) := by decide +kernel
theorem dL_tenders_302 : decode cL_tenders 302 = .ok (.iaload, 1) := by decide +kernel
theorem dL_tenders_303 : decode cL_tenders 303 = .ok (.goto 5, 3) := by decide +kernel
theorem dL_tenders_306 : decode cL_tenders 306 = .ok (.bipush (-3), 2) := by decide +kernel
theorem dL_tenders_308 : decode cL_tenders 308 = .ok (.istore 10, 2) := by decide +kernel
theorem dL_tenders_310 : decode cL_tenders 310 = .ok (.aload 6, 2) := by decide +kernel
theorem dL_tenders_312 : decode cL_tenders 312 = .ok (.iload 7, 2) := by decide +kernel
theorem dL_tenders_314 : decode cL_tenders 314 = .ok (.dup2, 1) := by decide +kernel
theorem dL_tenders_315 : decode cL_tenders 315 = .ok (.iaload, 1) := by decide +kernel
theorem dL_tenders_316 : decode cL_tenders 316 = .ok (.iload 10, 2) := by decide +kernel
theorem dL_tenders_318 : decode cL_tenders 318 = .ok (.ifCond .le 10, 3) := by decide +kernel
theorem dL_tenders_321 : decode cL_tenders 321 = .ok (.iconst 1, 1) := by decide +kernel
theorem dL_tenders_322 : decode cL_tenders 322 = .ok (.iload 8, 2) := by decide +kernel
theorem dL_tenders_324 : decode cL_tenders 324 = .ok (.ishl, 1) := by decide +kernel
theorem dL_tenders_325 : decode cL_tenders 325 = .ok (.goto 4, 3) := by decide +kernel
theorem dL_tenders_328 : decode cL_tenders 328 = .ok (.iconst 0, 1) := by decide +kernel
theorem dL_tenders_329 : decode cL_tenders 329 = .ok (.ior, 1) := by decide +kernel
theorem dL_tenders_330 : decode cL_tenders 330 = .ok (.iastore, 1) := by decide +kernel
theorem dL_tenders_331 : decode cL_tenders 331 = .ok (.aload_n 0, 1) := by decide +kernel
theorem dL_tenders_332 : decode cL_tenders 332 = .ok (.iconst 1, 1) := by decide +kernel
theorem dL_tenders_333 : decode cL_tenders 333 = .ok (.iload 7, 2) := by decide +kernel
theorem dL_tenders_335 : decode cL_tenders 335 = .ok (.iload 8, 2) := by decide +kernel
theorem dL_tenders_337 : decode cL_tenders 337 = .ok (.iconst 0, 1) := by decide +kernel
theorem dL_tenders_338 : decode cL_tenders 338 = .ok (.invokestatic 91, 3) := by decide +kernel
theorem dL_tenders_341 : decode cL_tenders 341 = .ok (.iload 10, 2) := by decide +kernel
theorem dL_tenders_343 : decode cL_tenders 343 = .ok (.if_icmp .ne 7, 3) := by decide +kernel
theorem dL_tenders_346 : decode cL_tenders 346 = .ok (.iconst 1, 1) := by decide +kernel
theorem dL_tenders_347 : decode cL_tenders 347 = .ok (.goto 4, 3) := by decide +kernel
theorem dL_tenders_350 : decode cL_tenders 350 = .ok (.iconst 0, 1) := by decide +kernel
theorem dL_tenders_351 : decode cL_tenders 351 = .ok (.ireturn, 1) := by decide +kernel
theorem dL_tenders_352 : decode cL_tenders 352 = .ok (.iload_n 1, 1) := by decide +kernel
theorem dL_tenders_353 : decode cL_tenders 353 = .ok (.bipush 8, 2) := by decide +kernel
theorem dL_tenders_355 : decode cL_tenders 355 = .ok (.if_icmp .ge 134, 3) := by decide +kernel
theorem dL_tenders_358 : decode cL_tenders 358 = .ok (.iconst (-1), 1) := by decide +kernel
theorem dL_tenders_359 : decode cL_tenders 359 = .ok (.istore 10, 2) := by decide +kernel
theorem dL_tenders_361 : decode cL_tenders 361 = .ok (.iconst 3, 1) := by decide +kernel
theorem dL_tenders_362 : decode cL_tenders 362 = .ok (.istore 11, 2) := by decide +kernel
theorem dL_tenders_364 : decode cL_tenders 364 = .ok (.iload 11, 2) := by decide +kernel
theorem dL_tenders_366 : decode cL_tenders 366 = .ok (.ifCond .lt 60, 3) := by decide +kernel
theorem dL_tenders_369 : decode cL_tenders 369 = .ok (.iload 7, 2) := by decide +kernel
theorem dL_tenders_371 : decode cL_tenders 371 = .ok (.iload 11, 2) := by decide +kernel
theorem dL_tenders_373 : decode cL_tenders 373 = .ok (.aload 5, 2) := by decide +kernel
theorem dL_tenders_375 : decode cL_tenders 375 = .ok (.aload 6, 2) := by decide +kernel
theorem dL_tenders_377 : decode cL_tenders 377 = .ok (.invokestatic 41, 3) := by decide +kernel
theorem dL_tenders_380 : decode cL_tenders 380 = .ok (.ifCond .eq 36, 3) := by decide +kernel
theorem dL_tenders_383 : decode cL_tenders 383 = .ok (.iload 10, 2) := by decide +kernel
theorem dL_tenders_385 : decode cL_tenders 385 = .ok (.ifCond .lt 26, 3) := by decide +kernel
theorem dL_tenders_388 : decode cL_tenders 388 = .ok (.aload 5, 2) := by decide +kernel
theorem dL_tenders_390 : decode cL_tenders 390 = .ok (.iconst 4, 1) := by decide +kernel
theorem dL_tenders_391 : decode cL_tenders 391 = .ok (.iload 7, 2) := by decide +kernel
theorem dL_tenders_393 : decode cL_tenders 393 = .ok (.imul, 1) := by decide +kernel
theorem dL_tenders_394 : decode cL_tenders 394 = .ok (.iload 11, 2) := by decide +kernel
theorem dL_tenders_396 : decode cL_tenders 396 = .ok (.iadd, 1) := by decide +kernel
theorem dL_tenders_397 : decode cL_tenders 397 = .ok (.iaload, 1) := by decide +kernel
theorem dL_tenders_398 : decode cL_tenders 398 = .ok (.aload 5, 2) := by decide +kernel
theorem dL_tenders_400 : decode cL_tenders 400 = .ok (.iconst 4, 1) := by decide +kernel
theorem dL_tenders_401 : decode cL_tenders 401 = .ok (.iload 7, 2) := by decide +kernel
theorem dL_tenders_403 : decode cL_tenders 403 = .ok (.imul, 1) := by decide +kernel
theorem dL_tenders_404 : decode cL_tenders 404 = .ok (.iload 10, 2) := by decide +kernel
theorem dL_tenders_406 : decode cL_tenders 406 = .ok (.iadd, 1) := by decide +kernel
theorem dL_tenders_407 : decode cL_tenders 407 = .ok (.iaload, 1) := by decide +kernel
theorem dL_tenders_408 : decode cL_tenders 408 = .ok (.if_icmp .gt 8, 3) := by decide +kernel
theorem dL_tenders_411 : decode cL_tenders 411 = .ok (.iload 11, 2) := by decide +kernel
theorem dL_tenders_413 : decode cL_tenders 413 = .ok (.goto 5, 3) := by decide +kernel
theorem dL_tenders_416 : decode cL_tenders 416 = .ok (.iload 10, 2) := by decide +kernel
theorem dL_tenders_418 : decode cL_tenders 418 = .ok (.istore 10, 2) := by decide +kernel
theorem dL_tenders_420 : decode cL_tenders 420 = .ok (.iinc 11 (-1), 3) := by decide +kernel
theorem dL_tenders_423 : decode cL_tenders 423 = .ok (.goto (-59), 3) := by decide +kernel
theorem dL_tenders_426 : decode cL_tenders 426 = .ok (.iload 9, 2) := by decide +kernel
theorem dL_tenders_428 : decode cL_tenders 428 = .ok (.ifCond .eq 31, 3) := by decide +kernel
theorem dL_tenders_431 : decode cL_tenders 431 = .ok (.aload 4, 2) := by decide +kernel
theorem dL_tenders_433 : decode cL_tenders 433 = .ok (.iconst 4, 1) := by decide +kernel
theorem dL_tenders_434 : decode cL_tenders 434 = .ok (.iload 7, 2) := by decide +kernel
theorem dL_tenders_436 : decode cL_tenders 436 = .ok (.imul, 1) := by decide +kernel
theorem dL_tenders_437 : decode cL_tenders 437 = .ok (.iload 10, 2) := by decide +kernel
theorem dL_tenders_439 : decode cL_tenders 439 = .ok (.ifCond .ge 7, 3) := by decide +kernel
theorem dL_tenders_442 : decode cL_tenders 442 = .ok (.iconst 2, 1) := by decide +kernel
theorem dL_tenders_443 : decode cL_tenders 443 = .ok (.goto 4, 3) := by decide +kernel
theorem dL_tenders_446 : decode cL_tenders 446 = .ok (.iconst 1, 1) := by decide +kernel
theorem dL_tenders_447 : decode cL_tenders 447 = .ok (.iastore, 1) := by decide +kernel
theorem dL_tenders_448 : decode cL_tenders 448 = .ok (.aload 4, 2) := by decide +kernel
theorem dL_tenders_450 : decode cL_tenders 450 = .ok (.iconst 4, 1) := by decide +kernel
theorem dL_tenders_451 : decode cL_tenders 451 = .ok (.iload 7, 2) := by decide +kernel
theorem dL_tenders_453 : decode cL_tenders 453 = .ok (.imul, 1) := by decide +kernel
theorem dL_tenders_454 : decode cL_tenders 454 = .ok (.iconst 1, 1) := by decide +kernel
theorem dL_tenders_455 : decode cL_tenders 455 = .ok (.iadd, 1) := by decide +kernel
theorem dL_tenders_456 : decode cL_tenders 456 = .ok (.iload 10, 2) := by decide +kernel
theorem dL_tenders_458 : decode cL_tenders 458 = .ok (.iastore, 1) := by decide +kernel
theorem dL_tenders_459 : decode cL_tenders 459 = .ok (.aload_n 0, 1) := by decide +kernel
theorem dL_tenders_460 : decode cL_tenders 460 = .ok (.iconst 2, 1) := by decide +kernel
theorem dL_tenders_461 : decode cL_tenders 461 = .ok (.iload 7, 2) := by decide +kernel
theorem dL_tenders_463 : decode cL_tenders 463 = .ok (.iconst 0, 1) := by decide +kernel
theorem dL_tenders_464 : decode cL_tenders 464 = .ok (.iconst 0, 1) := by decide +kernel
theorem dL_tenders_465 : decode cL_tenders 465 = .ok (.invokestatic 91, 3) := by decide +kernel
theorem dL_tenders_468 : decode cL_tenders 468 = .ok (.iload 9, 2) := by decide +kernel
theorem dL_tenders_470 : decode cL_tenders 470 = .ok (.ifCond .eq 8, 3) := by decide +kernel
theorem dL_tenders_473 : decode cL_tenders 473 = .ok (.iload 10, 2) := by decide +kernel
theorem dL_tenders_475 : decode cL_tenders 475 = .ok (.goto 5, 3) := by decide +kernel
theorem dL_tenders_478 : decode cL_tenders 478 = .ok (.bipush (-3), 2) := by decide +kernel
theorem dL_tenders_480 : decode cL_tenders 480 = .ok (.if_icmp .ne 7, 3) := by decide +kernel
theorem dL_tenders_483 : decode cL_tenders 483 = .ok (.iconst 1, 1) := by decide +kernel
theorem dL_tenders_484 : decode cL_tenders 484 = .ok (.goto 4, 3) := by decide +kernel
theorem dL_tenders_487 : decode cL_tenders 487 = .ok (.iconst 0, 1) := by decide +kernel
theorem dL_tenders_488 : decode cL_tenders 488 = .ok (.ireturn, 1) := by decide +kernel
theorem dL_tenders_489 : decode cL_tenders 489 = .ok (.aload 4, 2) := by decide +kernel
theorem dL_tenders_491 : decode cL_tenders 491 = .ok (.iconst 4, 1) := by decide +kernel
theorem dL_tenders_492 : decode cL_tenders 492 = .ok (.iload 7, 2) := by decide +kernel
theorem dL_tenders_494 : decode cL_tenders 494 = .ok (.imul, 1) := by decide +kernel
theorem dL_tenders_495 : decode cL_tenders 495 = .ok (.iconst 1, 1) := by decide +kernel
theorem dL_tenders_496 : decode cL_tenders 496 = .ok (.iadd, 1) := by decide +kernel
theorem dL_tenders_497 : decode cL_tenders 497 = .ok (.iaload, 1) := by decide +kernel
theorem dL_tenders_498 : decode cL_tenders 498 = .ok (.istore 10, 2) := by decide +kernel
theorem dL_tenders_500 : decode cL_tenders 500 = .ok (.aload 4, 2) := by decide +kernel
theorem dL_tenders_502 : decode cL_tenders 502 = .ok (.iconst 4, 1) := by decide +kernel
theorem dL_tenders_503 : decode cL_tenders 503 = .ok (.iload 7, 2) := by decide +kernel
theorem dL_tenders_505 : decode cL_tenders 505 = .ok (.imul, 1) := by decide +kernel
theorem dL_tenders_506 : decode cL_tenders 506 = .ok (.iaload, 1) := by decide +kernel
theorem dL_tenders_507 : decode cL_tenders 507 = .ok (.iconst 1, 1) := by decide +kernel
theorem dL_tenders_508 : decode cL_tenders 508 = .ok (.if_icmp .ne 19, 3) := by decide +kernel
theorem dL_tenders_511 : decode cL_tenders 511 = .ok (.aload 4, 2) := by decide +kernel
theorem dL_tenders_513 : decode cL_tenders 513 = .ok (.iconst 4, 1) := by decide +kernel
theorem dL_tenders_514 : decode cL_tenders 514 = .ok (.iload 7, 2) := by decide +kernel
theorem dL_tenders_516 : decode cL_tenders 516 = .ok (.imul, 1) := by decide +kernel
theorem dL_tenders_517 : decode cL_tenders 517 = .ok (.iconst 2, 1) := by decide +kernel
theorem dL_tenders_518 : decode cL_tenders 518 = .ok (.iadd, 1) := by decide +kernel
theorem dL_tenders_519 : decode cL_tenders 519 = .ok (.iaload, 1) := by decide +kernel
theorem dL_tenders_520 : decode cL_tenders 520 = .ok (.ifCond .ge 7, 3) := by decide +kernel
theorem dL_tenders_523 : decode cL_tenders 523 = .ok (.iconst 1, 1) := by decide +kernel
theorem dL_tenders_524 : decode cL_tenders 524 = .ok (.goto 4, 3) := by decide +kernel
theorem dL_tenders_527 : decode cL_tenders 527 = .ok (.iconst 0, 1) := by decide +kernel
theorem dL_tenders_528 : decode cL_tenders 528 = .ok (.istore 11, 2) := by decide +kernel
theorem dL_tenders_530 : decode cL_tenders 530 = .ok (.iload 11, 2) := by decide +kernel
theorem dL_tenders_532 : decode cL_tenders 532 = .ok (.ifCond .eq 16, 3) := by decide +kernel
theorem dL_tenders_535 : decode cL_tenders 535 = .ok (.aload 5, 2) := by decide +kernel
theorem dL_tenders_537 : decode cL_tenders 537 = .ok (.iconst 4, 1) := by decide +kernel
theorem dL_tenders_538 : decode cL_tenders 538 = .ok (.iload 7, 2) := by decide +kernel
theorem dL_tenders_540 : decode cL_tenders 540 = .ok (.imul, 1) := by decide +kernel
theorem dL_tenders_541 : decode cL_tenders 541 = .ok (.iload 10, 2) := by decide +kernel
theorem dL_tenders_543 : decode cL_tenders 543 = .ok (.iadd, 1) := by decide +kernel
