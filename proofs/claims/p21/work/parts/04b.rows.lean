set_option maxRecDepth 20000 in
theorem gX2_award_X1_winner : GoodIn wsX2_award (wsV RX2 101 RX1 yX1_winner wsX1_winner) := goodIn_app (goodIn_of _ (by decide +kernel)) ggX2_award_X1_winner
theorem dX2_award_0 : decode cX2_award 0 = .ok (.aload_n 0, 1) := by decide +kernel
theorem dX2_award_1 : decode cX2_award 1 = .ok (.iload_n 1, 1) := by decide +kernel
theorem dX2_award_2 : decode cX2_award 2 = .ok (.invokevirtual 43, 3) := by decide +kernel
theorem dX2_award_5 : decode cX2_award 5 = .ok (.astore_n 2, 1) := by decide +kernel
theorem dX2_award_6 : decode cX2_award 6 = .ok (.aload_n 2, 1) := by decide +kernel
theorem dX2_award_7 : decode cX2_award 7 = .ok (.ifnonnull 13, 3) := by decide +kernel
theorem dX2_award_10 : decode cX2_award 10 = .ok (.new 47, 3) := by decide +kernel
theorem dX2_award_13 : decode cX2_award 13 = .ok (.dup, 1) := by decide +kernel
theorem dX2_award_14 : decode cX2_award 14 = .ok (.ldc 49, 2) := by decide +kernel
theorem dX2_award_16 : decode cX2_award 16 = .ok (.invokespecial 51, 3) := by decide +kernel
theorem dX2_award_19 : decode cX2_award 19 = .ok (.athrow, 1) := by decide +kernel
theorem dX2_award_20 : decode cX2_award 20 = .ok (.aload_n 2, 1) := by decide +kernel
theorem dX2_award_21 : decode cX2_award 21 = .ok (.invokevirtual 64, 3) := by decide +kernel
theorem dX2_award_24 : decode cX2_award 24 = .ok (.ifCond .ne 13, 3) := by decide +kernel
theorem dX2_award_27 : decode cX2_award 27 = .ok (.new 35, 3) := by decide +kernel
theorem dX2_award_30 : decode cX2_award 30 = .ok (.dup, 1) := by decide +kernel
theorem dX2_award_31 : decode cX2_award 31 = .ok (.ldc 96, 2) := by decide +kernel
theorem dX2_award_33 : decode cX2_award 33 = .ok (.invokespecial 39, 3) := by decide +kernel
theorem dX2_award_36 : decode cX2_award 36 = .ok (.athrow, 1) := by decide +kernel
theorem dX2_award_37 : decode cX2_award 37 = .ok (.aload_n 2, 1) := by decide +kernel
theorem dX2_award_38 : decode cX2_award 38 = .ok (.invokevirtual 98, 3) := by decide +kernel
theorem dX2_award_41 : decode cX2_award 41 = .ok (.aload_n 2, 1) := by decide +kernel
theorem dX2_award_42 : decode cX2_award 42 = .ok (.invokevirtual 101, 3) := by decide +kernel
theorem dX2_award_45 : decode cX2_award 45 = .ok (.ireturn, 1) := by decide +kernel
set_option maxRecDepth 20000 in
theorem ggX2_passOn_X2_tenderAt : GoodIn wsX2_passOn wsX2_tenderAt := goodIn_r _ [11, 12, 41, 42, 43, 44, 45, 46] (by decide +kernel) (by decide +kernel)
set_option maxRecDepth 20000 in
theorem gX2_passOn_X2_tenderAt : GoodIn wsX2_passOn (wsV RX2 43 RX2 yX2_tenderAt wsX2_tenderAt) := goodIn_app (goodIn_of _ (by decide +kernel)) ggX2_passOn_X2_tenderAt
set_option maxRecDepth 20000 in
theorem ggX2_passOn_X1_isAwarded : GoodIn wsX2_passOn wsX1_isAwarded := goodIn_r _ [17, 18, 47, 48, 49, 50, 51, 52] (by decide +kernel) (by decide +kernel)
set_option maxRecDepth 20000 in
theorem gX2_passOn_X1_isAwarded : GoodIn wsX2_passOn (wsV RX2 104 RX1 yX1_isAwarded wsX1_isAwarded) := goodIn_app (goodIn_of _ (by decide +kernel)) ggX2_passOn_X1_isAwarded
set_option maxRecDepth 20000 in
theorem ggX2_passOn_X1_isPassedOn : GoodIn wsX2_passOn wsX1_isPassedOn := goodIn_r _ [22, 23, 47, 48, 49, 50, 51, 52] (by decide +kernel) (by decide +kernel)
set_option maxRecDepth 20000 in
theorem gX2_passOn_X1_isPassedOn : GoodIn wsX2_passOn (wsV RX2 107 RX1 yX1_isPassedOn wsX1_isPassedOn) := goodIn_app (goodIn_of _ (by decide +kernel)) ggX2_passOn_X1_isPassedOn
set_option maxRecDepth 20000 in
theorem ggX2_passOn_X1_winner : GoodIn wsX2_passOn wsX1_winner := goodIn_r _ [27, 18, 47, 48, 49, 50, 51, 52] (by decide +kernel) (by decide +kernel)
set_option maxRecDepth 20000 in
theorem gX2_passOn_X1_winner : GoodIn wsX2_passOn (wsV RX2 101 RX1 yX1_winner wsX1_winner) := goodIn_app (goodIn_of _ (by decide +kernel)) ggX2_passOn_X1_winner
set_option maxRecDepth 20000 in
theorem ggX2_passOn_X2_isBidder : GoodIn wsX2_passOn wsX2_isBidder := goodIn_r _ [30] (by decide +kernel) (by decide +kernel)
set_option maxRecDepth 20000 in
theorem gX2_passOn_X2_isBidder : GoodIn wsX2_passOn (va_wsS RX2 52 yX2_isBidder wsX2_isBidder) := goodIn_app (goodIn_of _ (by decide +kernel)) ggX2_passOn_X2_isBidder
set_option maxRecDepth 20000 in
theorem ggX2_passOn_X1_sumOf : GoodIn wsX2_passOn wsX1_sumOf := goodIn_r _ [34, 35, 29, 10, 30, 47, 48, 49, 50, 51, 52] (by decide +kernel) (by decide +kernel)
set_option maxRecDepth 20000 in
theorem gX2_passOn_X1_sumOf : GoodIn wsX2_passOn (wsV RX2 92 RX1 yX1_sumOf wsX1_sumOf) := goodIn_app (goodIn_of _ (by decide +kernel)) ggX2_passOn_X1_sumOf
set_option maxRecDepth 20000 in
theorem ggX2_passOn_X1_giveOver : GoodIn wsX2_passOn wsX1_giveOver := goodIn_r _ [39, 23, 40, 47, 48, 49, 50, 51, 52] (by decide +kernel) (by decide +kernel)
set_option maxRecDepth 20000 in
theorem gX2_passOn_X1_giveOver : GoodIn wsX2_passOn (wsV RX2 114 RX1 yX1_giveOver wsX1_giveOver) := goodIn_app (goodIn_of _ (by decide +kernel)) ggX2_passOn_X1_giveOver
theorem dX2_passOn_0 : decode cX2_passOn 0 = .ok (.aload_n 0, 1) := by decide +kernel
theorem dX2_passOn_1 : decode cX2_passOn 1 = .ok (.iload_n 1, 1) := by decide +kernel
theorem dX2_passOn_2 : decode cX2_passOn 2 = .ok (.invokevirtual 43, 3) := by decide +kernel
theorem dX2_passOn_5 : decode cX2_passOn 5 = .ok (.astore 4, 2) := by decide +kernel
theorem dX2_passOn_7 : decode cX2_passOn 7 = .ok (.aload 4, 2) := by decide +kernel
theorem dX2_passOn_9 : decode cX2_passOn 9 = .ok (.ifnonnull 13, 3) := by decide +kernel
theorem dX2_passOn_12 : decode cX2_passOn 12 = .ok (.new 47, 3) := by decide +kernel
theorem dX2_passOn_15 : decode cX2_passOn 15 = .ok (.dup, 1) := by decide +kernel
theorem dX2_passOn_16 : decode cX2_passOn 16 = .ok (.ldc 49, 2) := by decide +kernel
theorem dX2_passOn_18 : decode cX2_passOn 18 = .ok (.invokespecial 51, 3) := by decide +kernel
theorem dX2_passOn_21 : decode cX2_passOn 21 = .ok (.athrow, 1) := by decide +kernel
theorem dX2_passOn_22 : decode cX2_passOn 22 = .ok (.aload 4, 2) := by decide +kernel
theorem dX2_passOn_24 : decode cX2_passOn 24 = .ok (.invokevirtual 104, 3) := by decide +kernel
theorem dX2_passOn_27 : decode cX2_passOn 27 = .ok (.ifCond .eq 11, 3) := by decide +kernel
theorem dX2_passOn_30 : decode cX2_passOn 30 = .ok (.aload 4, 2) := by decide +kernel
theorem dX2_passOn_32 : decode cX2_passOn 32 = .ok (.invokevirtual 107, 3) := by decide +kernel
theorem dX2_passOn_35 : decode cX2_passOn 35 = .ok (.ifCond .eq 13, 3) := by decide +kernel
theorem dX2_passOn_38 : decode cX2_passOn 38 = .ok (.new 35, 3) := by decide +kernel
theorem dX2_passOn_41 : decode cX2_passOn 41 = .ok (.dup, 1) := by decide +kernel
theorem dX2_passOn_42 : decode cX2_passOn 42 = .ok (.ldc 110, 2) := by decide +kernel
theorem dX2_passOn_44 : decode cX2_passOn 44 = .ok (.invokespecial 39, 3) := by decide +kernel
theorem dX2_passOn_47 : decode cX2_passOn 47 = .ok (.athrow, 1) := by decide +kernel
theorem dX2_passOn_48 : decode cX2_passOn 48 = .ok (.aload 4, 2) := by decide +kernel
theorem dX2_passOn_50 : decode cX2_passOn 50 = .ok (.invokevirtual 101, 3) := by decide +kernel
theorem dX2_passOn_53 : decode cX2_passOn 53 = .ok (.istore 5, 2) := by decide +kernel
theorem dX2_passOn_55 : decode cX2_passOn 55 = .ok (.iload_n 2, 1) := by decide +kernel
theorem dX2_passOn_56 : decode cX2_passOn 56 = .ok (.invokestatic 52, 3) := by decide +kernel
theorem dX2_passOn_59 : decode cX2_passOn 59 = .ok (.ifCond .eq 25, 3) := by decide +kernel
theorem dX2_passOn_62 : decode cX2_passOn 62 = .ok (.iload_n 2, 1) := by decide +kernel
theorem dX2_passOn_63 : decode cX2_passOn 63 = .ok (.iload 5, 2) := by decide +kernel
theorem dX2_passOn_65 : decode cX2_passOn 65 = .ok (.if_icmp .eq 19, 3) := by decide +kernel
theorem dX2_passOn_68 : decode cX2_passOn 68 = .ok (.iload_n 3, 1) := by decide +kernel
theorem dX2_passOn_69 : decode cX2_passOn 69 = .ok (.iconst 1, 1) := by decide +kernel
theorem dX2_passOn_70 : decode cX2_passOn 70 = .ok (.if_icmp .lt 14, 3) := by decide +kernel
theorem dX2_passOn_73 : decode cX2_passOn 73 = .ok (.iload_n 3, 1) := by decide +kernel
theorem dX2_passOn_74 : decode cX2_passOn 74 = .ok (.aload 4, 2) := by decide +kernel
theorem dX2_passOn_76 : decode cX2_passOn 76 = .ok (.iload 5, 2) := by decide +kernel
theorem dX2_passOn_78 : decode cX2_passOn 78 = .ok (.invokevirtual 92, 3) := by decide +kernel
theorem dX2_passOn_81 : decode cX2_passOn 81 = .ok (.if_icmp .le 13, 3) := by decide +kernel
theorem dX2_passOn_84 : decode cX2_passOn 84 = .ok (.new 59, 3) := by decide +kernel
theorem dX2_passOn_87 : decode cX2_passOn 87 = .ok (.dup, 1) := by decide +kernel
theorem dX2_passOn_88 : decode cX2_passOn 88 = .ok (.ldc 112, 2) := by decide +kernel
theorem dX2_passOn_90 : decode cX2_passOn 90 = .ok (.invokespecial 63, 3) := by decide +kernel
theorem dX2_passOn_93 : decode cX2_passOn 93 = .ok (.athrow, 1) := by decide +kernel
theorem dX2_passOn_94 : decode cX2_passOn 94 = .ok (.aload 4, 2) := by decide +kernel
theorem dX2_passOn_96 : decode cX2_passOn 96 = .ok (.iload_n 2, 1) := by decide +kernel
theorem dX2_passOn_97 : decode cX2_passOn 97 = .ok (.iload_n 3, 1) := by decide +kernel
theorem dX2_passOn_98 : decode cX2_passOn 98 = .ok (.invokevirtual 114, 3) := by decide +kernel
theorem dX2_passOn_101 : decode cX2_passOn 101 = .ok (.iload 5, 2) := by decide +kernel
theorem dX2_passOn_103 : decode cX2_passOn 103 = .ok (.ireturn, 1) := by decide +kernel
set_option maxRecDepth 20000 in
theorem ggX2_turnover_X2_isBidder : GoodIn wsX2_turnover wsX2_isBidder := goodIn_r _ [6] (by decide +kernel) (by decide +kernel)
set_option maxRecDepth 20000 in
theorem gX2_turnover_X2_isBidder : GoodIn wsX2_turnover (va_wsS RX2 52 yX2_isBidder wsX2_isBidder) := goodIn_app (goodIn_of _ (by decide +kernel)) ggX2_turnover_X2_isBidder
set_option maxRecDepth 20000 in
theorem ggX2_turnover_X2_turnoverOf : GoodIn wsX2_turnover wsX2_turnoverOf := goodIn_r _ [10, 11, 12, 13, 14, 15, 16, 17, 18, 19, 20, 21, 22, 23, 24, 4, 5, 6, 25, 26, 27, 28, 29, 30, 31, 32, 33, 34, 35, 36] (by decide +kernel) (by decide +kernel)
set_option maxRecDepth 20000 in
theorem gX2_turnover_X2_turnoverOf : GoodIn wsX2_turnover (wsV RX2 117 RX2 yX2_turnoverOf wsX2_turnoverOf) := goodIn_app (goodIn_of _ (by decide +kernel)) ggX2_turnover_X2_turnoverOf
theorem dX2_turnover_0 : decode cX2_turnover 0 = .ok (.iload_n 1, 1) := by decide +kernel
theorem dX2_turnover_1 : decode cX2_turnover 1 = .ok (.invokestatic 52, 3) := by decide +kernel
theorem dX2_turnover_4 : decode cX2_turnover 4 = .ok (.ifCond .ne 13, 3) := by decide +kernel
theorem dX2_turnover_7 : decode cX2_turnover 7 = .ok (.new 59, 3) := by decide +kernel
theorem dX2_turnover_10 : decode cX2_turnover 10 = .ok (.dup, 1) := by decide +kernel
theorem dX2_turnover_11 : decode cX2_turnover 11 = .ok (.ldc 81, 2) := by decide +kernel
theorem dX2_turnover_13 : decode cX2_turnover 13 = .ok (.invokespecial 63, 3) := by decide +kernel
theorem dX2_turnover_16 : decode cX2_turnover 16 = .ok (.athrow, 1) := by decide +kernel
theorem dX2_turnover_17 : decode cX2_turnover 17 = .ok (.aload_n 0, 1) := by decide +kernel
theorem dX2_turnover_18 : decode cX2_turnover 18 = .ok (.iload_n 1, 1) := by decide +kernel
theorem dX2_turnover_19 : decode cX2_turnover 19 = .ok (.invokevirtual 117, 3) := by decide +kernel
theorem dX2_turnover_22 : decode cX2_turnover 22 = .ok (.ireturn, 1) := by decide +kernel
set_option maxRecDepth 20000 in
theorem ggX2_won_X2_isBidder : GoodIn wsX2_won wsX2_isBidder := goodIn_r _ [7] (by decide +kernel) (by decide +kernel)
set_option maxRecDepth 20000 in
theorem gX2_won_X2_isBidder : GoodIn wsX2_won (va_wsS RX2 52 yX2_isBidder wsX2_isBidder) := goodIn_app (goodIn_of _ (by decide +kernel)) ggX2_won_X2_isBidder
set_option maxRecDepth 20000 in
theorem ggX2_won_X1_winner : GoodIn wsX2_won wsX1_winner := goodIn_r _ [12, 13, 20, 21, 22, 23, 24, 25] (by decide +kernel) (by decide +kernel)
set_option maxRecDepth 20000 in
theorem gX2_won_X1_winner : GoodIn wsX2_won (wsV RX2 101 RX1 yX1_winner wsX1_winner) := goodIn_app (goodIn_of _ (by decide +kernel)) ggX2_won_X1_winner
theorem dX2_won_0 : decode cX2_won 0 = .ok (.iload_n 1, 1) := by decide +kernel
theorem dX2_won_1 : decode cX2_won 1 = .ok (.invokestatic 52, 3) := by decide +kernel
theorem dX2_won_4 : decode cX2_won 4 = .ok (.ifCond .ne 13, 3) := by decide +kernel
theorem dX2_won_7 : decode cX2_won 7 = .ok (.new 59, 3) := by decide +kernel
theorem dX2_won_10 : decode cX2_won 10 = .ok (.dup, 1) := by decide +kernel
theorem dX2_won_11 : decode cX2_won 11 = .ok (.ldc 81, 2) := by decide +kernel
theorem dX2_won_13 : decode cX2_won 13 = .ok (.invokespecial 63, 3) := by decide +kernel
theorem dX2_won_16 : decode cX2_won 16 = .ok (.athrow, 1) := by decide +kernel
theorem dX2_won_17 : decode cX2_won 17 = .ok (.iconst 0, 1) := by decide +kernel
theorem dX2_won_18 : decode cX2_won 18 = .ok (.istore_n 2, 1) := by decide +kernel
theorem dX2_won_19 : decode cX2_won 19 = .ok (.aload_n 0, 1) := by decide +kernel
theorem dX2_won_20 : decode cX2_won 20 = .ok (.getfield 11, 3) := by decide +kernel
theorem dX2_won_23 : decode cX2_won 23 = .ok (.astore_n 3, 1) := by decide +kernel
theorem dX2_won_24 : decode cX2_won 24 = .ok (.aload_n 3, 1) := by decide +kernel
theorem dX2_won_25 : decode cX2_won 25 = .ok (.arraylength, 1) := by decide +kernel
theorem dX2_won_26 : decode cX2_won 26 = .ok (.istore 4, 2) := by decide +kernel
theorem dX2_won_28 : decode cX2_won 28 = .ok (.iconst 0, 1) := by decide +kernel
theorem dX2_won_29 : decode cX2_won 29 = .ok (.istore 5, 2) := by decide +kernel
theorem dX2_won_31 : decode cX2_won 31 = .ok (.iload 5, 2) := by decide +kernel
theorem dX2_won_33 : decode cX2_won 33 = .ok (.iload 4, 2) := by decide +kernel
theorem dX2_won_35 : decode cX2_won 35 = .ok (.if_icmp .ge 32, 3) := by decide +kernel
theorem dX2_won_38 : decode cX2_won 38 = .ok (.aload_n 3, 1) := by decide +kernel
theorem dX2_won_39 : decode cX2_won 39 = .ok (.iload 5, 2) := by decide +kernel
theorem dX2_won_41 : decode cX2_won 41 = .ok (.aaload, 1) := by decide +kernel
theorem dX2_won_42 : decode cX2_won 42 = .ok (.astore 6, 2) := by decide +kernel
theorem dX2_won_44 : decode cX2_won 44 = .ok (.aload 6, 2) := by decide +kernel
theorem dX2_won_46 : decode cX2_won 46 = .ok (.ifnull 15, 3) := by decide +kernel
theorem dX2_won_49 : decode cX2_won 49 = .ok (.aload 6, 2) := by decide +kernel
theorem dX2_won_51 : decode cX2_won 51 = .ok (.invokevirtual 101, 3) := by decide +kernel
theorem dX2_won_54 : decode cX2_won 54 = .ok (.iload_n 1, 1) := by decide +kernel
theorem dX2_won_55 : decode cX2_won 55 = .ok (.if_icmp .ne 6, 3) := by decide +kernel
theorem dX2_won_58 : decode cX2_won 58 = .ok (.iinc 2 1, 3) := by decide +kernel
theorem dX2_won_61 : decode cX2_won 61 = .ok (.iinc 5 1, 3) := by decide +kernel
theorem dX2_won_64 : decode cX2_won 64 = .ok (.goto (-33), 3) := by decide +kernel
theorem dX2_won_67 : decode cX2_won 67 = .ok (.iload_n 2, 1) := by decide +kernel
theorem dX2_won_68 : decode cX2_won 68 = .ok (.ireturn, 1) := by decide +kernel
set_option maxRecDepth 20000 in
theorem ggX2_suspicion_X2_isPair : GoodIn wsX2_suspicion wsX2_isPair := goodIn_r _ [6, 7, 8, 5, 9] (by decide +kernel) (by decide +kernel)
set_option maxRecDepth 20000 in
theorem gX2_suspicion_X2_isPair : GoodIn wsX2_suspicion (va_wsS RX2 120 yX2_isPair wsX2_isPair) := goodIn_app (goodIn_of _ (by decide +kernel)) ggX2_suspicion_X2_isPair
set_option maxRecDepth 20000 in
theorem ggX2_suspicion_X2_suspicionOf : GoodIn wsX2_suspicion wsX2_suspicionOf := goodIn_r _ [13, 14, 15, 16, 17, 5, 18, 19, 20, 21, 22, 23, 24, 25, 26, 27, 28, 29, 30, 31, 32, 33, 34, 35, 36, 37, 38, 39, 8, 9, 40, 41, 42, 43, 44, 45, 46, 47, 48, 49, 50, 51, 52, 53, 54, 55, 56, 57, 58, 59, 60, 61, 62, 63, 64, 65, 66, 67, 68, 69, 70, 71, 72, 73, 74, 75, 76] (by decide +kernel) (by decide +kernel)
set_option maxRecDepth 20000 in
theorem gX2_suspicion_X2_suspicionOf : GoodIn wsX2_suspicion (wsV RX2 126 RX2 yX2_suspicionOf wsX2_suspicionOf) := goodIn_app (goodIn_of _ (by decide +kernel)) ggX2_suspicion_X2_suspicionOf
theorem dX2_suspicion_0 : decode cX2_suspicion 0 = .ok (.iload_n 1, 1) := by decide +kernel
theorem dX2_suspicion_1 : decode cX2_suspicion 1 = .ok (.iload_n 2, 1) := by decide +kernel
theorem dX2_suspicion_2 : decode cX2_suspicion 2 = .ok (.invokestatic 120, 3) := by decide +kernel
theorem dX2_suspicion_5 : decode cX2_suspicion 5 = .ok (.ifCond .ne 13, 3) := by decide +kernel
theorem dX2_suspicion_8 : decode cX2_suspicion 8 = .ok (.new 59, 3) := by decide +kernel
theorem dX2_suspicion_11 : decode cX2_suspicion 11 = .ok (.dup, 1) := by decide +kernel
theorem dX2_suspicion_12 : decode cX2_suspicion 12 = .ok (.ldc 124, 2) := by decide +kernel
theorem dX2_suspicion_14 : decode cX2_suspicion 14 = .ok (.invokespecial 63, 3) := by decide +kernel
theorem dX2_suspicion_17 : decode cX2_suspicion 17 = .ok (.athrow, 1) := by decide +kernel
theorem dX2_suspicion_18 : decode cX2_suspicion 18 = .ok (.aload_n 0, 1) := by decide +kernel
theorem dX2_suspicion_19 : decode cX2_suspicion 19 = .ok (.iload_n 1, 1) := by decide +kernel
theorem dX2_suspicion_20 : decode cX2_suspicion 20 = .ok (.iload_n 2, 1) := by decide +kernel
theorem dX2_suspicion_21 : decode cX2_suspicion 21 = .ok (.invokevirtual 126, 3) := by decide +kernel
theorem dX2_suspicion_24 : decode cX2_suspicion 24 = .ok (.ireturn, 1) := by decide +kernel
set_option maxRecDepth 20000 in
theorem ggX2_sign_X2_tenderAt : GoodIn wsX2_sign wsX2_tenderAt := goodIn_r _ [9, 10, 63, 64, 65, 66, 67, 68] (by decide +kernel) (by decide +kernel)
set_option maxRecDepth 20000 in
theorem gX2_sign_X2_tenderAt : GoodIn wsX2_sign (wsV RX2 43 RX2 yX2_tenderAt wsX2_tenderAt) := goodIn_app (goodIn_of _ (by decide +kernel)) ggX2_sign_X2_tenderAt
set_option maxRecDepth 20000 in
theorem ggX2_sign_X2_isPair : GoodIn wsX2_sign wsX2_isPair := goodIn_r _ [13, 14, 15, 8, 16] (by decide +kernel) (by decide +kernel)
set_option maxRecDepth 20000 in
theorem gX2_sign_X2_isPair : GoodIn wsX2_sign (va_wsS RX2 120 yX2_isPair wsX2_isPair) := goodIn_app (goodIn_of _ (by decide +kernel)) ggX2_sign_X2_isPair
set_option maxRecDepth 20000 in
theorem ggX2_sign_X2_countOf : GoodIn wsX2_sign wsX2_countOf := goodIn_r _ [20, 5, 6, 7, 8, 9, 10, 21, 22, 23, 24, 25, 26, 27, 28, 29, 30, 31, 32, 33, 34, 35, 36, 37, 15, 16, 38, 39, 40, 41, 42, 43, 44, 45, 46, 47, 48, 49, 50, 51, 52, 53, 54, 55, 56, 57, 58, 59, 60, 61, 62, 63, 64, 65, 66, 67, 68, 69, 70, 71, 72, 73, 74] (by decide +kernel) (by decide +kernel)
set_option maxRecDepth 20000 in
theorem gX2_sign_X2_countOf : GoodIn wsX2_sign (wsV RX2 130 RX2 yX2_countOf wsX2_countOf) := goodIn_app (goodIn_of _ (by decide +kernel)) ggX2_sign_X2_countOf
theorem dX2_sign_0 : decode cX2_sign 0 = .ok (.aload_n 0, 1) := by decide +kernel
theorem dX2_sign_1 : decode cX2_sign 1 = .ok (.iload_n 1, 1) := by decide +kernel
theorem dX2_sign_2 : decode cX2_sign 2 = .ok (.invokevirtual 43, 3) := by decide +kernel
theorem dX2_sign_5 : decode cX2_sign 5 = .ok (.ifnonnull 13, 3) := by decide +kernel
theorem dX2_sign_8 : decode cX2_sign 8 = .ok (.new 47, 3) := by decide +kernel
theorem dX2_sign_11 : decode cX2_sign 11 = .ok (.dup, 1) := by decide +kernel
theorem dX2_sign_12 : decode cX2_sign 12 = .ok (.ldc 49, 2) := by decide +kernel
theorem dX2_sign_14 : decode cX2_sign 14 = .ok (.invokespecial 51, 3) := by decide +kernel
theorem dX2_sign_17 : decode cX2_sign 17 = .ok (.athrow, 1) := by decide +kernel
theorem dX2_sign_18 : decode cX2_sign 18 = .ok (.iload_n 2, 1) := by decide +kernel
theorem dX2_sign_19 : decode cX2_sign 19 = .ok (.iload_n 3, 1) := by decide +kernel
theorem dX2_sign_20 : decode cX2_sign 20 = .ok (.invokestatic 120, 3) := by decide +kernel
theorem dX2_sign_23 : decode cX2_sign 23 = .ok (.ifCond .ne 13, 3) := by decide +kernel
theorem dX2_sign_26 : decode cX2_sign 26 = .ok (.new 59, 3) := by decide +kernel
theorem dX2_sign_29 : decode cX2_sign 29 = .ok (.dup, 1) := by decide +kernel
theorem dX2_sign_30 : decode cX2_sign 30 = .ok (.ldc 124, 2) := by decide +kernel
theorem dX2_sign_32 : decode cX2_sign 32 = .ok (.invokespecial 63, 3) := by decide +kernel
theorem dX2_sign_35 : decode cX2_sign 35 = .ok (.athrow, 1) := by decide +kernel
theorem dX2_sign_36 : decode cX2_sign 36 = .ok (.aload_n 0, 1) := by decide +kernel
theorem dX2_sign_37 : decode cX2_sign 37 = .ok (.iload_n 1, 1) := by decide +kernel
theorem dX2_sign_38 : decode cX2_sign 38 = .ok (.iload_n 2, 1) := by decide +kernel
theorem dX2_sign_39 : decode cX2_sign 39 = .ok (.iload_n 3, 1) := by decide +kernel
theorem dX2_sign_40 : decode cX2_sign 40 = .ok (.invokevirtual 130, 3) := by decide +kernel
theorem dX2_sign_43 : decode cX2_sign 43 = .ok (.ireturn, 1) := by decide +kernel
theorem dX2_setMark_0 : decode cX2_setMark 0 = .ok (.iload_n 1, 1) := by decide +kernel
theorem dX2_setMark_1 : decode cX2_setMark 1 = .ok (.iconst 1, 1) := by decide +kernel
theorem dX2_setMark_2 : decode cX2_setMark 2 = .ok (.if_icmp .lt 10, 3) := by decide +kernel
theorem dX2_setMark_5 : decode cX2_setMark 5 = .ok (.iload_n 1, 1) := by decide +kernel
theorem dX2_setMark_6 : decode cX2_setMark 6 = .ok (.sipush 1000, 3) := by decide +kernel
theorem dX2_setMark_9 : decode cX2_setMark 9 = .ok (.if_icmp .le 13, 3) := by decide +kernel
theorem dX2_setMark_12 : decode cX2_setMark 12 = .ok (.new 59, 3) := by decide +kernel
theorem dX2_setMark_15 : decode cX2_setMark 15 = .ok (.dup, 1) := by decide +kernel
theorem dX2_setMark_16 : decode cX2_setMark 16 = .ok (.ldc 134, 2) := by decide +kernel
theorem dX2_setMark_18 : decode cX2_setMark 18 = .ok (.invokespecial 63, 3) := by decide +kernel
theorem dX2_setMark_21 : decode cX2_setMark 21 = .ok (.athrow, 1) := by decide +kernel
theorem dX2_setMark_22 : decode cX2_setMark 22 = .ok (.aload_n 0, 1) := by decide +kernel
theorem dX2_setMark_23 : decode cX2_setMark 23 = .ok (.getfield 32, 3) := by decide +kernel
theorem dX2_setMark_26 : decode cX2_setMark 26 = .ok (.istore_n 2, 1) := by decide +kernel
theorem dX2_setMark_27 : decode cX2_setMark 27 = .ok (.aload_n 0, 1) := by decide +kernel
theorem dX2_setMark_28 : decode cX2_setMark 28 = .ok (.iload_n 1, 1) := by decide +kernel
theorem dX2_setMark_29 : decode cX2_setMark 29 = .ok (.putfield 32, 3) := by decide +kernel
theorem dX2_setMark_32 : decode cX2_setMark 32 = .ok (.iload_n 2, 1) := by decide +kernel
theorem dX2_setMark_33 : decode cX2_setMark 33 = .ok (.ireturn, 1) := by decide +kernel
set_option maxRecDepth 20000 in
theorem ggX2_worst_X2_suspicionOf : GoodIn wsX2_worst wsX2_suspicionOf := goodIn_r _ [5, 6, 7, 8, 9, 4, 10, 11, 12, 13, 14, 15, 16, 17, 18, 19, 20, 21, 22, 23, 24, 25, 26, 27, 28, 29, 30, 31, 32, 33, 34, 35, 36, 37, 38, 39, 40, 41, 42, 43, 44, 45, 46, 47, 48, 49, 50, 51, 52, 53, 54, 55, 56, 57, 58, 59, 60, 61, 62, 63, 64, 65, 66, 67, 68, 69, 70] (by decide +kernel) (by decide +kernel)
set_option maxRecDepth 20000 in
theorem gX2_worst_X2_suspicionOf : GoodIn wsX2_worst (wsV RX2 126 RX2 yX2_suspicionOf wsX2_suspicionOf) := goodIn_app (goodIn_of _ (by decide +kernel)) ggX2_worst_X2_suspicionOf
theorem dX2_worst_0 : decode cX2_worst 0 = .ok (.iconst (-1), 1) := by decide +kernel
theorem dX2_worst_1 : decode cX2_worst 1 = .ok (.istore_n 1, 1) := by decide +kernel
theorem dX2_worst_2 : decode cX2_worst 2 = .ok (.iconst 0, 1) := by decide +kernel
theorem dX2_worst_3 : decode cX2_worst 3 = .ok (.istore_n 2, 1) := by decide +kernel
theorem dX2_worst_4 : decode cX2_worst 4 = .ok (.iconst 0, 1) := by decide +kernel
theorem dX2_worst_5 : decode cX2_worst 5 = .ok (.istore_n 3, 1) := by decide +kernel
theorem dX2_worst_6 : decode cX2_worst 6 = .ok (.iload_n 3, 1) := by decide +kernel
theorem dX2_worst_7 : decode cX2_worst 7 = .ok (.bipush 7, 2) := by decide +kernel
theorem dX2_worst_9 : decode cX2_worst 9 = .ok (.if_icmp .ge 53, 3) := by decide +kernel
theorem dX2_worst_12 : decode cX2_worst 12 = .ok (.iload_n 3, 1) := by decide +kernel
theorem dX2_worst_13 : decode cX2_worst 13 = .ok (.iconst 1, 1) := by decide +kernel
theorem dX2_worst_14 : decode cX2_worst 14 = .ok (.iadd, 1) := by decide +kernel
theorem dX2_worst_15 : decode cX2_worst 15 = .ok (.istore 4, 2) := by decide +kernel
theorem dX2_worst_17 : decode cX2_worst 17 = .ok (.iload 4, 2) := by decide +kernel
theorem dX2_worst_19 : decode cX2_worst 19 = .ok (.bipush 7, 2) := by decide +kernel
theorem dX2_worst_21 : decode cX2_worst 21 = .ok (.if_icmp .ge 35, 3) := by decide +kernel
theorem dX2_worst_24 : decode cX2_worst 24 = .ok (.aload_n 0, 1) := by decide +kernel
theorem dX2_worst_25 : decode cX2_worst 25 = .ok (.iload_n 3, 1) := by decide +kernel
theorem dX2_worst_26 : decode cX2_worst 26 = .ok (.iload 4, 2) := by decide +kernel
theorem dX2_worst_28 : decode cX2_worst 28 = .ok (.invokevirtual 126, 3) := by decide +kernel
theorem dX2_worst_31 : decode cX2_worst 31 = .ok (.istore 5, 2) := by decide +kernel
theorem dX2_worst_33 : decode cX2_worst 33 = .ok (.iload 5, 2) := by decide +kernel
theorem dX2_worst_35 : decode cX2_worst 35 = .ok (.iload_n 2, 1) := by decide +kernel
theorem dX2_worst_36 : decode cX2_worst 36 = .ok (.if_icmp .le 14, 3) := by decide +kernel
theorem dX2_worst_39 : decode cX2_worst 39 = .ok (.iload 5, 2) := by decide +kernel
theorem dX2_worst_41 : decode cX2_worst 41 = .ok (.istore_n 2, 1) := by decide +kernel
theorem dX2_worst_42 : decode cX2_worst 42 = .ok (.bipush 10, 2) := by decide +kernel
theorem dX2_worst_44 : decode cX2_worst 44 = .ok (.iload_n 3, 1) := by decide +kernel
theorem dX2_worst_45 : decode cX2_worst 45 = .ok (.imul, 1) := by decide +kernel
theorem dX2_worst_46 : decode cX2_worst 46 = .ok (.iload 4, 2) := by decide +kernel
theorem dX2_worst_48 : decode cX2_worst 48 = .ok (.iadd, 1) := by decide +kernel
theorem dX2_worst_49 : decode cX2_worst 49 = .ok (.istore_n 1, 1) := by decide +kernel
theorem dX2_worst_50 : decode cX2_worst 50 = .ok (.iinc 4 1, 3) := by decide +kernel
theorem dX2_worst_53 : decode cX2_worst 53 = .ok (.goto (-36), 3) := by decide +kernel
theorem dX2_worst_56 : decode cX2_worst 56 = .ok (.iinc 3 1, 3) := by decide +kernel
theorem dX2_worst_59 : decode cX2_worst 59 = .ok (.goto (-53), 3) := by decide +kernel
theorem dX2_worst_62 : decode cX2_worst 62 = .ok (.iload_n 1, 1) := by decide +kernel
theorem dX2_worst_63 : decode cX2_worst 63 = .ok (.ireturn, 1) := by decide +kernel
set_option maxRecDepth 20000 in
theorem ggX2_file_X2_isPair : GoodIn wsX2_file wsX2_isPair := goodIn_r _ [15, 16, 17, 14, 18] (by decide +kernel) (by decide +kernel)
set_option maxRecDepth 20000 in
theorem gX2_file_X2_isPair : GoodIn wsX2_file (va_wsS RX2 120 yX2_isPair wsX2_isPair) := goodIn_app (goodIn_of _ (by decide +kernel)) ggX2_file_X2_isPair
set_option maxRecDepth 20000 in
theorem ggX2_file_X2_hasDossier : GoodIn wsX2_file wsX2_hasDossier := goodIn_r _ [22, 6, 23, 24, 25, 10, 26, 27, 28, 101, 102, 103, 104, 105, 106, 107, 108, 109, 110, 111, 112, 113, 114] (by decide +kernel) (by decide +kernel)
set_option maxRecDepth 20000 in
theorem gX2_file_X2_hasDossier : GoodIn wsX2_file (wsV RX2 136 RX2 yX2_hasDossier wsX2_hasDossier) := goodIn_app (goodIn_of _ (by decide +kernel)) ggX2_file_X2_hasDossier
set_option maxRecDepth 20000 in
theorem ggX2_file_X2_suspicionOf : GoodIn wsX2_file wsX2_suspicionOf := goodIn_r _ [32, 11, 33, 34, 35, 14, 36, 37, 38, 39, 40, 41, 42, 43, 44, 45, 46, 47, 48, 49, 50, 51, 52, 53, 54, 55, 56, 57, 17, 18, 58, 59, 60, 61, 62, 63, 64, 65, 66, 67, 68, 69, 70, 71, 72, 73, 74, 75, 76, 77, 78, 79, 80, 81, 82, 101, 102, 103, 104, 105, 106, 115, 116, 117, 118, 119, 120] (by decide +kernel) (by decide +kernel)
set_option maxRecDepth 20000 in
theorem gX2_file_X2_suspicionOf : GoodIn wsX2_file (wsV RX2 126 RX2 yX2_suspicionOf wsX2_suspicionOf) := goodIn_app (goodIn_of _ (by decide +kernel)) ggX2_file_X2_suspicionOf
set_option maxRecDepth 20000 in
theorem ggX2_file_X0_init : GoodIn wsX2_file wsX0_init := goodIn_r _ [85, 86, 87, 88, 89, 90, 91, 92, 93, 94, 95, 96, 27, 28, 107, 108, 109, 110, 111, 112, 113, 114] (by decide +kernel) (by decide +kernel)
set_option maxRecDepth 20000 in
theorem gX2_file_X0_init : GoodIn wsX2_file (wsX0_init) := ggX2_file_X0_init
set_option maxRecDepth 20000 in
theorem ggX2_file_X2_countOf : GoodIn wsX2_file wsX2_countOf := goodIn_r _ [36, 37, 38, 39, 14, 40, 11, 41, 42, 43, 44, 45, 46, 47, 48, 49, 50, 51, 52, 53, 54, 55, 56, 57, 17, 18, 58, 59, 60, 61, 62, 63, 64, 65, 66, 67, 68, 69, 70, 71, 72, 73, 74, 75, 76, 77, 78, 79, 80, 81, 82, 101, 102, 103, 104, 105, 106, 115, 116, 117, 118, 119, 120] (by decide +kernel) (by decide +kernel)
set_option maxRecDepth 20000 in
theorem gX2_file_X2_countOf : GoodIn wsX2_file (wsV RX2 130 RX2 yX2_countOf wsX2_countOf) := goodIn_app (goodIn_of _ (by decide +kernel)) ggX2_file_X2_countOf
set_option maxRecDepth 20000 in
theorem ggX2_file_X0_addMatter : GoodIn wsX2_file wsX0_addMatter := goodIn_r _ [100, 90, 94, 107, 108, 109, 110, 111, 112, 113, 114] (by decide +kernel) (by decide +kernel)
set_option maxRecDepth 20000 in
theorem gX2_file_X0_addMatter : GoodIn wsX2_file (wsV RX2 143 RX0 yX0_addMatter wsX0_addMatter) := goodIn_app (goodIn_of _ (by decide +kernel)) ggX2_file_X0_addMatter
theorem dX2_file_0 : decode cX2_file 0 = .ok (.iload_n 1, 1) := by decide +kernel
theorem dX2_file_1 : decode cX2_file 1 = .ok (.iload_n 2, 1) := by decide +kernel
theorem dX2_file_2 : decode cX2_file 2 = .ok (.invokestatic 120, 3) := by decide +kernel
theorem dX2_file_5 : decode cX2_file 5 = .ok (.ifCond .ne 13, 3) := by decide +kernel
theorem dX2_file_8 : decode cX2_file 8 = .ok (.new 59, 3) := by decide +kernel
theorem dX2_file_11 : decode cX2_file 11 = .ok (.dup, 1) := by decide +kernel
theorem dX2_file_12 : decode cX2_file 12 = .ok (.ldc 124, 2) := by decide +kernel
theorem dX2_file_14 : decode cX2_file 14 = .ok (.invokespecial 63, 3) := by decide +kernel
theorem dX2_file_17 : decode cX2_file 17 = .ok (.athrow, 1) := by decide +kernel
theorem dX2_file_18 : decode cX2_file 18 = .ok (.aload_n 0, 1) := by decide +kernel
theorem dX2_file_19 : decode cX2_file 19 = .ok (.getfield 25, 3) := by decide +kernel
theorem dX2_file_22 : decode cX2_file 22 = .ok (.istore_n 3, 1) := by decide +kernel
theorem dX2_file_23 : decode cX2_file 23 = .ok (.iload_n 3, 1) := by decide +kernel
theorem dX2_file_24 : decode cX2_file 24 = .ok (.ifCond .lt 34, 3) := by decide +kernel
theorem dX2_file_27 : decode cX2_file 27 = .ok (.iload_n 3, 1) := by decide +kernel
theorem dX2_file_28 : decode cX2_file 28 = .ok (.aload_n 0, 1) := by decide +kernel
theorem dX2_file_29 : decode cX2_file 29 = .ok (.getfield 21, 3) := by decide +kernel
theorem dX2_file_32 : decode cX2_file 32 = .ok (.arraylength, 1) := by decide +kernel
theorem dX2_file_33 : decode cX2_file 33 = .ok (.if_icmp .ge 25, 3) := by decide +kernel
theorem dX2_file_36 : decode cX2_file 36 = .ok (.aload_n 0, 1) := by decide +kernel
theorem dX2_file_37 : decode cX2_file 37 = .ok (.iload_n 1, 1) := by decide +kernel
theorem dX2_file_38 : decode cX2_file 38 = .ok (.iload_n 2, 1) := by decide +kernel
theorem dX2_file_39 : decode cX2_file 39 = .ok (.invokevirtual 136, 3) := by decide +kernel
theorem dX2_file_42 : decode cX2_file 42 = .ok (.ifCond .ne 16, 3) := by decide +kernel
theorem dX2_file_45 : decode cX2_file 45 = .ok (.aload_n 0, 1) := by decide +kernel
theorem dX2_file_46 : decode cX2_file 46 = .ok (.iload_n 1, 1) := by decide +kernel
theorem dX2_file_47 : decode cX2_file 47 = .ok (.iload_n 2, 1) := by decide +kernel
theorem dX2_file_48 : decode cX2_file 48 = .ok (.invokevirtual 126, 3) := by decide +kernel
theorem dX2_file_51 : decode cX2_file 51 = .ok (.aload_n 0, 1) := by decide +kernel
theorem dX2_file_52 : decode cX2_file 52 = .ok (.getfield 32, 3) := by decide +kernel
theorem dX2_file_55 : decode cX2_file 55 = .ok (.if_icmp .ge 13, 3) := by decide +kernel
theorem dX2_file_58 : decode cX2_file 58 = .ok (.new 35, 3) := by decide +kernel
theorem dX2_file_61 : decode cX2_file 61 = .ok (.dup, 1) := by decide +kernel
theorem dX2_file_62 : decode cX2_file 62 = .ok (.ldc 139, 2) := by decide +kernel
theorem dX2_file_64 : decode cX2_file 64 = .ok (.invokespecial 39, 3) := by decide +kernel
theorem dX2_file_67 : decode cX2_file 67 = .ok (.athrow, 1) := by decide +kernel
theorem dX2_file_68 : decode cX2_file 68 = .ok (.new 19, 3) := by decide +kernel
theorem dX2_file_71 : decode cX2_file 71 = .ok (.dup, 1) := by decide +kernel
theorem dX2_file_72 : decode cX2_file 72 = .ok (.iload_n 1, 1) := by decide +kernel
theorem dX2_file_73 : decode cX2_file 73 = .ok (.iload_n 2, 1) := by decide +kernel
theorem dX2_file_74 : decode cX2_file 74 = .ok (.invokespecial 141, 3) := by decide +kernel
theorem dX2_file_77 : decode cX2_file 77 = .ok (.astore 4, 2) := by decide +kernel
theorem dX2_file_79 : decode cX2_file 79 = .ok (.iconst 0, 1) := by decide +kernel
theorem dX2_file_80 : decode cX2_file 80 = .ok (.istore 5, 2) := by decide +kernel
theorem dX2_file_82 : decode cX2_file 82 = .ok (.iload 5, 2) := by decide +kernel
theorem dX2_file_84 : decode cX2_file 84 = .ok (.aload_n 0, 1) := by decide +kernel
theorem dX2_file_85 : decode cX2_file 85 = .ok (.getfield 11, 3) := by decide +kernel
theorem dX2_file_88 : decode cX2_file 88 = .ok (.arraylength, 1) := by decide +kernel
theorem dX2_file_89 : decode cX2_file 89 = .ok (.if_icmp .ge 27, 3) := by decide +kernel
theorem dX2_file_92 : decode cX2_file 92 = .ok (.aload_n 0, 1) := by decide +kernel
theorem dX2_file_93 : decode cX2_file 93 = .ok (.iload 5, 2) := by decide +kernel
theorem dX2_file_95 : decode cX2_file 95 = .ok (.iload_n 1, 1) := by decide +kernel
theorem dX2_file_96 : decode cX2_file 96 = .ok (.iload_n 2, 1) := by decide +kernel
theorem dX2_file_97 : decode cX2_file 97 = .ok (.invokevirtual 130, 3) := by decide +kernel
theorem dX2_file_100 : decode cX2_file 100 = .ok (.ifCond .le 10, 3) := by decide +kernel
theorem dX2_file_103 : decode cX2_file 103 = .ok (.aload 4, 2) := by decide +kernel
theorem dX2_file_105 : decode cX2_file 105 = .ok (.iload 5, 2) := by decide +kernel
theorem dX2_file_107 : decode cX2_file 107 = .ok (.invokevirtual 143, 3) := by decide +kernel
theorem dX2_file_110 : decode cX2_file 110 = .ok (.iinc 5 1, 3) := by decide +kernel
theorem dX2_file_113 : decode cX2_file 113 = .ok (.goto (-31), 3) := by decide +kernel
theorem dX2_file_116 : decode cX2_file 116 = .ok (.aload_n 0, 1) := by decide +kernel
theorem dX2_file_117 : decode cX2_file 117 = .ok (.getfield 21, 3) := by decide +kernel
theorem dX2_file_120 : decode cX2_file 120 = .ok (.iload_n 3, 1) := by decide +kernel
theorem dX2_file_121 : decode cX2_file 121 = .ok (.aload 4, 2) := by decide +kernel
theorem dX2_file_123 : decode cX2_file 123 = .ok (.aastore, 1) := by decide +kernel
theorem dX2_file_124 : decode cX2_file 124 = .ok (.aload_n 0, 1) := by decide +kernel
theorem dX2_file_125 : decode cX2_file 125 = .ok (.iload_n 3, 1) := by decide +kernel
theorem dX2_file_126 : decode cX2_file 126 = .ok (.iconst 1, 1) := by decide +kernel
theorem dX2_file_127 : decode cX2_file 127 = .ok (.iadd, 1) := by decide +kernel
theorem dX2_file_128 : decode cX2_file 128 = .ok (.putfield 25, 3) := by decide +kernel
theorem dX2_file_131 : decode cX2_file 131 = .ok (.iload_n 3, 1) := by decide +kernel
theorem dX2_file_132 : decode cX2_file 132 = .ok (.ireturn, 1) := by decide +kernel
set_option maxRecDepth 20000 in
theorem ggX2_matters_X2_dossierAt : GoodIn wsX2_matters wsX2_dossierAt := goodIn_r _ [7, 8, 15, 16, 17, 18, 19, 20] (by decide +kernel) (by decide +kernel)
set_option maxRecDepth 20000 in
theorem gX2_matters_X2_dossierAt : GoodIn wsX2_matters (wsV RX2 146 RX2 yX2_dossierAt wsX2_dossierAt) := goodIn_app (goodIn_of _ (by decide +kernel)) ggX2_matters_X2_dossierAt
set_option maxRecDepth 20000 in
theorem ggX2_matters_X0_matterCount : GoodIn wsX2_matters wsX0_matterCount := goodIn_r _ [13, 14, 21, 22, 23, 24, 25, 26, 27, 28] (by decide +kernel) (by decide +kernel)
set_option maxRecDepth 20000 in
theorem gX2_matters_X0_matterCount : GoodIn wsX2_matters (wsV RX2 152 RX0 yX0_matterCount wsX0_matterCount) := goodIn_app (goodIn_of _ (by decide +kernel)) ggX2_matters_X0_matterCount
theorem dX2_matters_0 : decode cX2_matters 0 = .ok (.aload_n 0, 1) := by decide +kernel
theorem dX2_matters_1 : decode cX2_matters 1 = .ok (.iload_n 1, 1) := by decide +kernel
theorem dX2_matters_2 : decode cX2_matters 2 = .ok (.invokevirtual 146, 3) := by decide +kernel
theorem dX2_matters_5 : decode cX2_matters 5 = .ok (.astore_n 2, 1) := by decide +kernel
theorem dX2_matters_6 : decode cX2_matters 6 = .ok (.aload_n 2, 1) := by decide +kernel
theorem dX2_matters_7 : decode cX2_matters 7 = .ok (.ifnonnull 13, 3) := by decide +kernel
theorem dX2_matters_10 : decode cX2_matters 10 = .ok (.new 47, 3) := by decide +kernel
theorem dX2_matters_13 : decode cX2_matters 13 = .ok (.dup, 1) := by decide +kernel
theorem dX2_matters_14 : decode cX2_matters 14 = .ok (.ldc 150, 2) := by decide +kernel
theorem dX2_matters_16 : decode cX2_matters 16 = .ok (.invokespecial 51, 3) := by decide +kernel
theorem dX2_matters_19 : decode cX2_matters 19 = .ok (.athrow, 1) := by decide +kernel
theorem dX2_matters_20 : decode cX2_matters 20 = .ok (.aload_n 2, 1) := by decide +kernel
theorem dX2_matters_21 : decode cX2_matters 21 = .ok (.invokevirtual 152, 3) := by decide +kernel
theorem dX2_matters_24 : decode cX2_matters 24 = .ok (.ireturn, 1) := by decide +kernel
set_option maxRecDepth 20000 in
theorem ggX2_tell_X2_dossierAt : GoodIn wsX2_tell wsX2_dossierAt := goodIn_r _ [11, 12, 39, 40, 41, 42, 43, 44] (by decide +kernel) (by decide +kernel)
set_option maxRecDepth 20000 in
theorem gX2_tell_X2_dossierAt : GoodIn wsX2_tell (wsV RX2 146 RX2 yX2_dossierAt wsX2_dossierAt) := goodIn_app (goodIn_of _ (by decide +kernel)) ggX2_tell_X2_dossierAt
set_option maxRecDepth 20000 in
theorem ggX2_tell_X2_tenderAt : GoodIn wsX2_tell wsX2_tenderAt := goodIn_r _ [16, 17, 39, 40, 41, 42, 43, 44] (by decide +kernel) (by decide +kernel)
set_option maxRecDepth 20000 in
theorem gX2_tell_X2_tenderAt : GoodIn wsX2_tell (wsV RX2 43 RX2 yX2_tenderAt wsX2_tenderAt) := goodIn_app (goodIn_of _ (by decide +kernel)) ggX2_tell_X2_tenderAt
set_option maxRecDepth 20000 in
theorem ggX2_tell_X0_isOf : GoodIn wsX2_tell wsX0_isOf := goodIn_r _ [22, 23, 24, 45, 46, 47, 48, 49, 50, 51, 52] (by decide +kernel) (by decide +kernel)
set_option maxRecDepth 20000 in
theorem gX2_tell_X0_isOf : GoodIn wsX2_tell (wsV RX2 157 RX0 yX0_isOf wsX0_isOf) := goodIn_app (goodIn_of _ (by decide +kernel)) ggX2_tell_X0_isOf
set_option maxRecDepth 20000 in
theorem ggX2_tell_X0_isClosed : GoodIn wsX2_tell wsX0_isClosed := goodIn_r _ [28, 29, 45, 46, 47, 48, 49, 50, 51, 52] (by decide +kernel) (by decide +kernel)
set_option maxRecDepth 20000 in
theorem gX2_tell_X0_isClosed : GoodIn wsX2_tell (wsV RX2 162 RX0 yX0_isClosed wsX0_isClosed) := goodIn_app (goodIn_of _ (by decide +kernel)) ggX2_tell_X0_isClosed
set_option maxRecDepth 20000 in
theorem ggX2_tell_X0_hear : GoodIn wsX2_tell wsX0_hear := goodIn_r _ [33, 34, 35, 36, 37, 10, 38, 45, 46, 47, 48, 49, 50, 51, 52] (by decide +kernel) (by decide +kernel)
set_option maxRecDepth 20000 in
theorem gX2_tell_X0_hear : GoodIn wsX2_tell (wsV RX2 167 RX0 yX0_hear wsX0_hear) := goodIn_app (goodIn_of _ (by decide +kernel)) ggX2_tell_X0_hear
theorem dX2_tell_0 : decode cX2_tell 0 = .ok (.aload_n 0, 1) := by decide +kernel
theorem dX2_tell_1 : decode cX2_tell 1 = .ok (.iload_n 1, 1) := by decide +kernel
theorem dX2_tell_2 : decode cX2_tell 2 = .ok (.invokevirtual 146, 3) := by decide +kernel
theorem dX2_tell_5 : decode cX2_tell 5 = .ok (.astore 4, 2) := by decide +kernel
theorem dX2_tell_7 : decode cX2_tell 7 = .ok (.aload 4, 2) := by decide +kernel
theorem dX2_tell_9 : decode cX2_tell 9 = .ok (.ifnull 11, 3) := by decide +kernel
theorem dX2_tell_12 : decode cX2_tell 12 = .ok (.aload_n 0, 1) := by decide +kernel
theorem dX2_tell_13 : decode cX2_tell 13 = .ok (.iload_n 3, 1) := by decide +kernel
theorem dX2_tell_14 : decode cX2_tell 14 = .ok (.invokevirtual 43, 3) := by decide +kernel
theorem dX2_tell_17 : decode cX2_tell 17 = .ok (.ifnonnull 13, 3) := by decide +kernel
theorem dX2_tell_20 : decode cX2_tell 20 = .ok (.new 47, 3) := by decide +kernel
theorem dX2_tell_23 : decode cX2_tell 23 = .ok (.dup, 1) := by decide +kernel
theorem dX2_tell_24 : decode cX2_tell 24 = .ok (.ldc 155, 2) := by decide +kernel
theorem dX2_tell_26 : decode cX2_tell 26 = .ok (.invokespecial 51, 3) := by decide +kernel
theorem dX2_tell_29 : decode cX2_tell 29 = .ok (.athrow, 1) := by decide +kernel
theorem dX2_tell_30 : decode cX2_tell 30 = .ok (.aload 4, 2) := by decide +kernel
theorem dX2_tell_32 : decode cX2_tell 32 = .ok (.iload_n 2, 1) := by decide +kernel
theorem dX2_tell_33 : decode cX2_tell 33 = .ok (.invokevirtual 157, 3) := by decide +kernel
theorem dX2_tell_36 : decode cX2_tell 36 = .ok (.ifCond .ne 13, 3) := by decide +kernel
theorem dX2_tell_39 : decode cX2_tell 39 = .ok (.new 59, 3) := by decide +kernel
theorem dX2_tell_42 : decode cX2_tell 42 = .ok (.dup, 1) := by decide +kernel
theorem dX2_tell_43 : decode cX2_tell 43 = .ok (.ldc 160, 2) := by decide +kernel
theorem dX2_tell_45 : decode cX2_tell 45 = .ok (.invokespecial 63, 3) := by decide +kernel
theorem dX2_tell_48 : decode cX2_tell 48 = .ok (.athrow, 1) := by decide +kernel
theorem dX2_tell_49 : decode cX2_tell 49 = .ok (.aload 4, 2) := by decide +kernel
theorem dX2_tell_51 : decode cX2_tell 51 = .ok (.invokevirtual 162, 3) := by decide +kernel
theorem dX2_tell_54 : decode cX2_tell 54 = .ok (.ifCond .eq 13, 3) := by decide +kernel
theorem dX2_tell_57 : decode cX2_tell 57 = .ok (.new 35, 3) := by decide +kernel
theorem dX2_tell_60 : decode cX2_tell 60 = .ok (.dup, 1) := by decide +kernel
theorem dX2_tell_61 : decode cX2_tell 61 = .ok (.ldc 165, 2) := by decide +kernel
theorem dX2_tell_63 : decode cX2_tell 63 = .ok (.invokespecial 39, 3) := by decide +kernel
theorem dX2_tell_66 : decode cX2_tell 66 = .ok (.athrow, 1) := by decide +kernel
theorem dX2_tell_67 : decode cX2_tell 67 = .ok (.aload 4, 2) := by decide +kernel
theorem dX2_tell_69 : decode cX2_tell 69 = .ok (.iload_n 2, 1) := by decide +kernel
theorem dX2_tell_70 : decode cX2_tell 70 = .ok (.iload_n 3, 1) := by decide +kernel
theorem dX2_tell_71 : decode cX2_tell 71 = .ok (.invokevirtual 167, 3) := by decide +kernel
theorem dX2_tell_74 : decode cX2_tell 74 = .ok (.ireturn, 1) := by decide +kernel
set_option maxRecDepth 20000 in
theorem ggX2_compensate_X2_isBidder : GoodIn wsX2_compensate wsX2_isBidder := goodIn_r _ [7] (by decide +kernel) (by decide +kernel)
set_option maxRecDepth 20000 in
theorem gX2_compensate_X2_isBidder : GoodIn wsX2_compensate (va_wsS RX2 52 yX2_isBidder wsX2_isBidder) := goodIn_app (goodIn_of _ (by decide +kernel)) ggX2_compensate_X2_isBidder
set_option maxRecDepth 20000 in
theorem ggX2_compensate_X2_isMoney : GoodIn wsX2_compensate wsX2_isMoney := goodIn_r _ [10, 11] (by decide +kernel) (by decide +kernel)
set_option maxRecDepth 20000 in
theorem gX2_compensate_X2_isMoney : GoodIn wsX2_compensate (va_wsS RX2 56 yX2_isMoney wsX2_isMoney) := goodIn_app (goodIn_of _ (by decide +kernel)) ggX2_compensate_X2_isMoney
theorem dX2_compensate_0 : decode cX2_compensate 0 = .ok (.iload_n 1, 1) := by decide +kernel
theorem dX2_compensate_1 : decode cX2_compensate 1 = .ok (.invokestatic 52, 3) := by decide +kernel
theorem dX2_compensate_4 : decode cX2_compensate 4 = .ok (.ifCond .eq 10, 3) := by decide +kernel
theorem dX2_compensate_7 : decode cX2_compensate 7 = .ok (.iload_n 2, 1) := by decide +kernel
theorem dX2_compensate_8 : decode cX2_compensate 8 = .ok (.invokestatic 56, 3) := by decide +kernel
theorem dX2_compensate_11 : decode cX2_compensate 11 = .ok (.ifCond .ne 13, 3) := by decide +kernel
theorem dX2_compensate_14 : decode cX2_compensate 14 = .ok (.new 59, 3) := by decide +kernel
theorem dX2_compensate_17 : decode cX2_compensate 17 = .ok (.dup, 1) := by decide +kernel
theorem dX2_compensate_18 : decode cX2_compensate 18 = .ok (.ldc 170, 2) := by decide +kernel
theorem dX2_compensate_20 : decode cX2_compensate 20 = .ok (.invokespecial 63, 3) := by decide +kernel
theorem dX2_compensate_23 : decode cX2_compensate 23 = .ok (.athrow, 1) := by decide +kernel
theorem dX2_compensate_24 : decode cX2_compensate 24 = .ok (.aload_n 0, 1) := by decide +kernel
theorem dX2_compensate_25 : decode cX2_compensate 25 = .ok (.getfield 28, 3) := by decide +kernel
theorem dX2_compensate_28 : decode cX2_compensate 28 = .ok (.iload_n 1, 1) := by decide +kernel
theorem dX2_compensate_29 : decode cX2_compensate 29 = .ok (.dup2, 1) := by decide +kernel
theorem dX2_compensate_30 : decode cX2_compensate 30 = .ok (.iaload, 1) := by decide +kernel
theorem dX2_compensate_31 : decode cX2_compensate 31 = .ok (.iload_n 2, 1) := by decide +kernel
theorem dX2_compensate_32 : decode cX2_compensate 32 = .ok (.iadd, 1) := by decide +kernel
theorem dX2_compensate_33 : decode cX2_compensate 33 = .ok (.iastore, 1) := by decide +kernel
theorem dX2_compensate_34 : decode cX2_compensate 34 = .ok (.aload_n 0, 1) := by decide +kernel
theorem dX2_compensate_35 : decode cX2_compensate 35 = .ok (.getfield 28, 3) := by decide +kernel
theorem dX2_compensate_38 : decode cX2_compensate 38 = .ok (.iload_n 1, 1) := by decide +kernel
theorem dX2_compensate_39 : decode cX2_compensate 39 = .ok (.iaload, 1) := by decide +kernel
theorem dX2_compensate_40 : decode cX2_compensate 40 = .ok (.ireturn, 1) := by decide +kernel
set_option maxRecDepth 20000 in
theorem ggX2_close_X2_dossierAt : GoodIn wsX2_close wsX2_dossierAt := goodIn_r _ [9, 10, 73, 74, 75, 76, 77, 78] (by decide +kernel) (by decide +kernel)
set_option maxRecDepth 20000 in
theorem gX2_close_X2_dossierAt : GoodIn wsX2_close (wsV RX2 146 RX2 yX2_dossierAt wsX2_dossierAt) := goodIn_app (goodIn_of _ (by decide +kernel)) ggX2_close_X2_dossierAt
set_option maxRecDepth 20000 in
theorem ggX2_close_X0_isClosed : GoodIn wsX2_close wsX0_isClosed := goodIn_r _ [15, 16, 79, 80, 81, 82, 83, 84, 85, 86] (by decide +kernel) (by decide +kernel)
set_option maxRecDepth 20000 in
theorem gX2_close_X0_isClosed : GoodIn wsX2_close (wsV RX2 162 RX0 yX0_isClosed wsX0_isClosed) := goodIn_app (goodIn_of _ (by decide +kernel)) ggX2_close_X0_isClosed
set_option maxRecDepth 20000 in
theorem ggX2_close_X0_shut : GoodIn wsX2_close wsX0_shut := goodIn_r _ [20, 16, 79, 80, 81, 82, 83, 84, 85, 86] (by decide +kernel) (by decide +kernel)
set_option maxRecDepth 20000 in
theorem gX2_close_X0_shut : GoodIn wsX2_close (wsV RX2 172 RX0 yX0_shut wsX0_shut) := goodIn_app (goodIn_of _ (by decide +kernel)) ggX2_close_X0_shut
set_option maxRecDepth 20000 in
theorem ggX2_close_X0_one : GoodIn wsX2_close wsX0_one := goodIn_r _ [24, 25, 79, 80, 81, 82, 83, 84, 85, 86] (by decide +kernel) (by decide +kernel)
set_option maxRecDepth 20000 in
theorem gX2_close_X0_one : GoodIn wsX2_close (wsV RX2 175 RX0 yX0_one wsX0_one) := goodIn_app (goodIn_of _ (by decide +kernel)) ggX2_close_X0_one
set_option maxRecDepth 20000 in
theorem ggX2_close_X2_settle : GoodIn wsX2_close wsX2_settle := goodIn_r _ [29, 30, 31, 32, 33, 34, 35, 36, 8, 37, 38, 39, 40, 41, 42, 43, 44, 45, 46, 47, 48, 49, 50, 51, 52, 53, 54, 55, 56, 57, 58, 14, 59, 60, 61, 62, 63, 64, 65, 66, 67, 73, 74, 75, 76, 77, 78, 87, 88, 89, 90, 91, 92, 79, 80, 81, 82, 83, 84, 85, 86] (by decide +kernel) (by decide +kernel)
set_option maxRecDepth 20000 in
theorem gX2_close_X2_settle : GoodIn wsX2_close (wsV RX2 178 RX2 yX2_settle wsX2_settle) := goodIn_app (goodIn_of _ (by decide +kernel)) ggX2_close_X2_settle
set_option maxRecDepth 20000 in
theorem ggX2_close_X0_other : GoodIn wsX2_close wsX0_other := goodIn_r _ [71, 72, 79, 80, 81, 82, 83, 84, 85, 86] (by decide +kernel) (by decide +kernel)
set_option maxRecDepth 20000 in
theorem gX2_close_X0_other : GoodIn wsX2_close (wsV RX2 182 RX0 yX0_other wsX0_other) := goodIn_app (goodIn_of _ (by decide +kernel)) ggX2_close_X0_other
theorem dX2_close_0 : decode cX2_close 0 = .ok (.aload_n 0, 1) := by decide +kernel
theorem dX2_close_1 : decode cX2_close 1 = .ok (.iload_n 1, 1) := by decide +kernel
theorem dX2_close_2 : decode cX2_close 2 = .ok (.invokevirtual 146, 3) := by decide +kernel
theorem dX2_close_5 : decode cX2_close 5 = .ok (.astore_n 2, 1) := by decide +kernel
theorem dX2_close_6 : decode cX2_close 6 = .ok (.aload_n 2, 1) := by decide +kernel
theorem dX2_close_7 : decode cX2_close 7 = .ok (.ifnonnull 13, 3) := by decide +kernel
theorem dX2_close_10 : decode cX2_close 10 = .ok (.new 47, 3) := by decide +kernel
theorem dX2_close_13 : decode cX2_close 13 = .ok (.dup, 1) := by decide +kernel
theorem dX2_close_14 : decode cX2_close 14 = .ok (.ldc 150, 2) := by decide +kernel
theorem dX2_close_16 : decode cX2_close 16 = .ok (.invokespecial 51, 3) := by decide +kernel
theorem dX2_close_19 : decode cX2_close 19 = .ok (.athrow, 1) := by decide +kernel
theorem dX2_close_20 : decode cX2_close 20 = .ok (.aload_n 2, 1) := by decide +kernel
theorem dX2_close_21 : decode cX2_close 21 = .ok (.invokevirtual 162, 3) := by decide +kernel
theorem dX2_close_24 : decode cX2_close 24 = .ok (.ifCond .eq 13, 3) := by decide +kernel
theorem dX2_close_27 : decode cX2_close 27 = .ok (.new 35, 3) := by decide +kernel
theorem dX2_close_30 : decode cX2_close 30 = .ok (.dup, 1) := by decide +kernel
theorem dX2_close_31 : decode cX2_close 31 = .ok (.ldc 165, 2) := by decide +kernel
theorem dX2_close_33 : decode cX2_close 33 = .ok (.invokespecial 39, 3) := by decide +kernel
theorem dX2_close_36 : decode cX2_close 36 = .ok (.athrow, 1) := by decide +kernel
theorem dX2_close_37 : decode cX2_close 37 = .ok (.aload_n 2, 1) := by decide +kernel
theorem dX2_close_38 : decode cX2_close 38 = .ok (.invokevirtual 172, 3) := by decide +kernel
theorem dX2_close_41 : decode cX2_close 41 = .ok (.aload_n 0, 1) := by decide +kernel
theorem dX2_close_42 : decode cX2_close 42 = .ok (.aload_n 2, 1) := by decide +kernel
theorem dX2_close_43 : decode cX2_close 43 = .ok (.aload_n 2, 1) := by decide +kernel
theorem dX2_close_44 : decode cX2_close 44 = .ok (.invokevirtual 175, 3) := by decide +kernel
theorem dX2_close_47 : decode cX2_close 47 = .ok (.invokevirtual 178, 3) := by decide +kernel
theorem dX2_close_50 : decode cX2_close 50 = .ok (.aload_n 0, 1) := by decide +kernel
theorem dX2_close_51 : decode cX2_close 51 = .ok (.aload_n 2, 1) := by decide +kernel
theorem dX2_close_52 : decode cX2_close 52 = .ok (.aload_n 2, 1) := by decide +kernel
theorem dX2_close_53 : decode cX2_close 53 = .ok (.invokevirtual 182, 3) := by decide +kernel
theorem dX2_close_56 : decode cX2_close 56 = .ok (.invokevirtual 178, 3) := by decide +kernel
theorem dX2_close_59 : decode cX2_close 59 = .ok (.iadd, 1) := by decide +kernel
theorem dX2_close_60 : decode cX2_close 60 = .ok (.ireturn, 1) := by decide +kernel
set_option maxRecDepth 20000 in
theorem ggX2_fine_X2_dossierAt : GoodIn wsX2_fine wsX2_dossierAt := goodIn_r _ [9, 10, 25, 26, 27, 28, 29, 30] (by decide +kernel) (by decide +kernel)
set_option maxRecDepth 20000 in
theorem gX2_fine_X2_dossierAt : GoodIn wsX2_fine (wsV RX2 146 RX2 yX2_dossierAt wsX2_dossierAt) := goodIn_app (goodIn_of _ (by decide +kernel)) ggX2_fine_X2_dossierAt
set_option maxRecDepth 20000 in
theorem ggX2_fine_X0_isOf : GoodIn wsX2_fine wsX0_isOf := goodIn_r _ [15, 16, 17, 31, 32, 33, 34, 35, 36, 37, 38] (by decide +kernel) (by decide +kernel)
set_option maxRecDepth 20000 in
theorem gX2_fine_X0_isOf : GoodIn wsX2_fine (wsV RX2 157 RX0 yX0_isOf wsX0_isOf) := goodIn_app (goodIn_of _ (by decide +kernel)) ggX2_fine_X0_isOf
set_option maxRecDepth 20000 in
theorem ggX2_fine_X0_fineOf : GoodIn wsX2_fine wsX0_fineOf := goodIn_r _ [21, 22, 23, 8, 24, 31, 32, 33, 34, 35, 36, 37, 38] (by decide +kernel) (by decide +kernel)
set_option maxRecDepth 20000 in
theorem gX2_fine_X0_fineOf : GoodIn wsX2_fine (wsV RX2 185 RX0 yX0_fineOf wsX0_fineOf) := goodIn_app (goodIn_of _ (by decide +kernel)) ggX2_fine_X0_fineOf
theorem dX2_fine_0 : decode cX2_fine 0 = .ok (.aload_n 0, 1) := by decide +kernel
theorem dX2_fine_1 : decode cX2_fine 1 = .ok (.iload_n 1, 1) := by decide +kernel
theorem dX2_fine_2 : decode cX2_fine 2 = .ok (.invokevirtual 146, 3) := by decide +kernel
theorem dX2_fine_5 : decode cX2_fine 5 = .ok (.astore_n 3, 1) := by decide +kernel
theorem dX2_fine_6 : decode cX2_fine 6 = .ok (.aload_n 3, 1) := by decide +kernel
theorem dX2_fine_7 : decode cX2_fine 7 = .ok (.ifnonnull 13, 3) := by decide +kernel
theorem dX2_fine_10 : decode cX2_fine 10 = .ok (.new 47, 3) := by decide +kernel
theorem dX2_fine_13 : decode cX2_fine 13 = .ok (.dup, 1) := by decide +kernel
theorem dX2_fine_14 : decode cX2_fine 14 = .ok (.ldc 150, 2) := by decide +kernel
theorem dX2_fine_16 : decode cX2_fine 16 = .ok (.invokespecial 51, 3) := by decide +kernel
theorem dX2_fine_19 : decode cX2_fine 19 = .ok (.athrow, 1) := by decide +kernel
theorem dX2_fine_20 : decode cX2_fine 20 = .ok (.aload_n 3, 1) := by decide +kernel
theorem dX2_fine_21 : decode cX2_fine 21 = .ok (.iload_n 2, 1) := by decide +kernel
theorem dX2_fine_22 : decode cX2_fine 22 = .ok (.invokevirtual 157, 3) := by decide +kernel
theorem dX2_fine_25 : decode cX2_fine 25 = .ok (.ifCond .ne 13, 3) := by decide +kernel
theorem dX2_fine_28 : decode cX2_fine 28 = .ok (.new 59, 3) := by decide +kernel
theorem dX2_fine_31 : decode cX2_fine 31 = .ok (.dup, 1) := by decide +kernel
theorem dX2_fine_32 : decode cX2_fine 32 = .ok (.ldc 160, 2) := by decide +kernel
theorem dX2_fine_34 : decode cX2_fine 34 = .ok (.invokespecial 63, 3) := by decide +kernel
theorem dX2_fine_37 : decode cX2_fine 37 = .ok (.athrow, 1) := by decide +kernel
theorem dX2_fine_38 : decode cX2_fine 38 = .ok (.aload_n 3, 1) := by decide +kernel
theorem dX2_fine_39 : decode cX2_fine 39 = .ok (.iload_n 2, 1) := by decide +kernel
theorem dX2_fine_40 : decode cX2_fine 40 = .ok (.invokevirtual 185, 3) := by decide +kernel
theorem dX2_fine_43 : decode cX2_fine 43 = .ok (.ireturn, 1) := by decide +kernel
set_option maxRecDepth 20000 in
theorem ggX2_firstTeller_X2_dossierAt : GoodIn wsX2_firstTeller wsX2_dossierAt := goodIn_r _ [7, 8, 15, 16, 17, 18, 19, 20] (by decide +kernel) (by decide +kernel)
set_option maxRecDepth 20000 in
theorem gX2_firstTeller_X2_dossierAt : GoodIn wsX2_firstTeller (wsV RX2 146 RX2 yX2_dossierAt wsX2_dossierAt) := goodIn_app (goodIn_of _ (by decide +kernel)) ggX2_firstTeller_X2_dossierAt
set_option maxRecDepth 20000 in
theorem ggX2_firstTeller_X0_first : GoodIn wsX2_firstTeller wsX0_first := goodIn_r _ [13, 14, 21, 22, 23, 24, 25, 26, 27, 28] (by decide +kernel) (by decide +kernel)
set_option maxRecDepth 20000 in
theorem gX2_firstTeller_X0_first : GoodIn wsX2_firstTeller (wsV RX2 188 RX0 yX0_first wsX0_first) := goodIn_app (goodIn_of _ (by decide +kernel)) ggX2_firstTeller_X0_first
theorem dX2_firstTeller_0 : decode cX2_firstTeller 0 = .ok (.aload_n 0, 1) := by decide +kernel
theorem dX2_firstTeller_1 : decode cX2_firstTeller 1 = .ok (.iload_n 1, 1) := by decide +kernel
theorem dX2_firstTeller_2 : decode cX2_firstTeller 2 = .ok (.invokevirtual 146, 3) := by decide +kernel
theorem dX2_firstTeller_5 : decode cX2_firstTeller 5 = .ok (.astore_n 2, 1) := by decide +kernel
theorem dX2_firstTeller_6 : decode cX2_firstTeller 6 = .ok (.aload_n 2, 1) := by decide +kernel
theorem dX2_firstTeller_7 : decode cX2_firstTeller 7 = .ok (.ifnonnull 13, 3) := by decide +kernel
theorem dX2_firstTeller_10 : decode cX2_firstTeller 10 = .ok (.new 47, 3) := by decide +kernel
theorem dX2_firstTeller_13 : decode cX2_firstTeller 13 = .ok (.dup, 1) := by decide +kernel
theorem dX2_firstTeller_14 : decode cX2_firstTeller 14 = .ok (.ldc 150, 2) := by decide +kernel
theorem dX2_firstTeller_16 : decode cX2_firstTeller 16 = .ok (.invokespecial 51, 3) := by decide +kernel
theorem dX2_firstTeller_19 : decode cX2_firstTeller 19 = .ok (.athrow, 1) := by decide +kernel
theorem dX2_firstTeller_20 : decode cX2_firstTeller 20 = .ok (.aload_n 2, 1) := by decide +kernel
theorem dX2_firstTeller_21 : decode cX2_firstTeller 21 = .ok (.invokevirtual 188, 3) := by decide +kernel
theorem dX2_firstTeller_24 : decode cX2_firstTeller 24 = .ok (.ireturn, 1) := by decide +kernel
theorem dX2_isBidder_0 : decode cX2_isBidder 0 = .ok (.iload_n 0, 1) := by decide +kernel
theorem dX2_isBidder_1 : decode cX2_isBidder 1 = .ok (.ifCond .lt 13, 3) := by decide +kernel
theorem dX2_isBidder_4 : decode cX2_isBidder 4 = .ok (.iload_n 0, 1) := by decide +kernel
theorem dX2_isBidder_5 : decode cX2_isBidder 5 = .ok (.bipush 7, 2) := by decide +kernel
theorem dX2_isBidder_7 : decode cX2_isBidder 7 = .ok (.if_icmp .ge 7, 3) := by decide +kernel
theorem dX2_isBidder_10 : decode cX2_isBidder 10 = .ok (.iconst 1, 1) := by decide +kernel
theorem dX2_isBidder_11 : decode cX2_isBidder 11 = .ok (.goto 4, 3) := by decide +kernel
theorem dX2_isBidder_14 : decode cX2_isBidder 14 = .ok (.iconst 0, 1) := by decide +kernel
theorem dX2_isBidder_15 : decode cX2_isBidder 15 = .ok (.ireturn, 1) := by decide +kernel
set_option maxRecDepth 20000 in
theorem ggX2_isPair_X2_isBidder : GoodIn wsX2_isPair wsX2_isBidder := goodIn_r _ [4] (by decide +kernel) (by decide +kernel)
set_option maxRecDepth 20000 in
theorem gX2_isPair_X2_isBidder : GoodIn wsX2_isPair (va_wsS RX2 52 yX2_isBidder wsX2_isBidder) := goodIn_app (goodIn_of _ (by decide +kernel)) ggX2_isPair_X2_isBidder
theorem dX2_isPair_0 : decode cX2_isPair 0 = .ok (.iload_n 0, 1) := by decide +kernel
theorem dX2_isPair_1 : decode cX2_isPair 1 = .ok (.invokestatic 52, 3) := by decide +kernel
theorem dX2_isPair_4 : decode cX2_isPair 4 = .ok (.ifCond .eq 19, 3) := by decide +kernel
theorem dX2_isPair_7 : decode cX2_isPair 7 = .ok (.iload_n 1, 1) := by decide +kernel
theorem dX2_isPair_8 : decode cX2_isPair 8 = .ok (.invokestatic 52, 3) := by decide +kernel
theorem dX2_isPair_11 : decode cX2_isPair 11 = .ok (.ifCond .eq 12, 3) := by decide +kernel
theorem dX2_isPair_14 : decode cX2_isPair 14 = .ok (.iload_n 0, 1) := by decide +kernel
theorem dX2_isPair_15 : decode cX2_isPair 15 = .ok (.iload_n 1, 1) := by decide +kernel
theorem dX2_isPair_16 : decode cX2_isPair 16 = .ok (.if_icmp .eq 7, 3) := by decide +kernel
theorem dX2_isPair_19 : decode cX2_isPair 19 = .ok (.iconst 1, 1) := by decide +kernel
theorem dX2_isPair_20 : decode cX2_isPair 20 = .ok (.goto 4, 3) := by decide +kernel
theorem dX2_isPair_23 : decode cX2_isPair 23 = .ok (.iconst 0, 1) := by decide +kernel
theorem dX2_isPair_24 : decode cX2_isPair 24 = .ok (.ireturn, 1) := by decide +kernel
theorem dX2_isMoney_0 : decode cX2_isMoney 0 = .ok (.iload_n 0, 1) := by decide +kernel
theorem dX2_isMoney_1 : decode cX2_isMoney 1 = .ok (.iconst 1, 1) := by decide +kernel
theorem dX2_isMoney_2 : decode cX2_isMoney 2 = .ok (.if_icmp .lt 13, 3) := by decide +kernel
theorem dX2_isMoney_5 : decode cX2_isMoney 5 = .ok (.iload_n 0, 1) := by decide +kernel
theorem dX2_isMoney_6 : decode cX2_isMoney 6 = .ok (.ldc 191, 2) := by decide +kernel
theorem dX2_isMoney_8 : decode cX2_isMoney 8 = .ok (.if_icmp .gt 7, 3) := by decide +kernel
theorem dX2_isMoney_11 : decode cX2_isMoney 11 = .ok (.iconst 1, 1) := by decide +kernel
theorem dX2_isMoney_12 : decode cX2_isMoney 12 = .ok (.goto 4, 3) := by decide +kernel
theorem dX2_isMoney_15 : decode cX2_isMoney 15 = .ok (.iconst 0, 1) := by decide +kernel
theorem dX2_isMoney_16 : decode cX2_isMoney 16 = .ok (.ireturn, 1) := by decide +kernel
theorem dX2_tenderAt_0 : decode cX2_tenderAt 0 = .ok (.iload_n 1, 1) := by decide +kernel
theorem dX2_tenderAt_1 : decode cX2_tenderAt 1 = .ok (.ifCond .lt 21, 3) := by decide +kernel
theorem dX2_tenderAt_4 : decode cX2_tenderAt 4 = .ok (.iload_n 1, 1) := by decide +kernel
theorem dX2_tenderAt_5 : decode cX2_tenderAt 5 = .ok (.aload_n 0, 1) := by decide +kernel
theorem dX2_tenderAt_6 : decode cX2_tenderAt 6 = .ok (.getfield 11, 3) := by decide +kernel
theorem dX2_tenderAt_9 : decode cX2_tenderAt 9 = .ok (.arraylength, 1) := by decide +kernel
theorem dX2_tenderAt_10 : decode cX2_tenderAt 10 = .ok (.if_icmp .ge 12, 3) := by decide +kernel
theorem dX2_tenderAt_13 : decode cX2_tenderAt 13 = .ok (.aload_n 0, 1) := by decide +kernel
theorem dX2_tenderAt_14 : decode cX2_tenderAt 14 = .ok (.getfield 11, 3) := by decide +kernel
theorem dX2_tenderAt_17 : decode cX2_tenderAt 17 = .ok (.iload_n 1, 1) := by decide +kernel
theorem dX2_tenderAt_18 : decode cX2_tenderAt 18 = .ok (.aaload, 1) := by decide +kernel
theorem dX2_tenderAt_19 : decode cX2_tenderAt 19 = .ok (.goto 4, 3) := by decide +kernel
theorem dX2_tenderAt_22 : decode cX2_tenderAt 22 = .ok (.aconst_null, 1) := by decide +kernel
theorem dX2_tenderAt_23 : decode cX2_tenderAt 23 = .ok (.areturn, 1) := by decide +kernel
theorem dX2_dossierAt_0 : decode cX2_dossierAt 0 = .ok (.iload_n 1, 1) := by decide +kernel
theorem dX2_dossierAt_1 : decode cX2_dossierAt 1 = .ok (.ifCond .lt 21, 3) := by decide +kernel
theorem dX2_dossierAt_4 : decode cX2_dossierAt 4 = .ok (.iload_n 1, 1) := by decide +kernel
theorem dX2_dossierAt_5 : decode cX2_dossierAt 5 = .ok (.aload_n 0, 1) := by decide +kernel
theorem dX2_dossierAt_6 : decode cX2_dossierAt 6 = .ok (.getfield 21, 3) := by decide +kernel
theorem dX2_dossierAt_9 : decode cX2_dossierAt 9 = .ok (.arraylength, 1) := by decide +kernel
theorem dX2_dossierAt_10 : decode cX2_dossierAt 10 = .ok (.if_icmp .ge 12, 3) := by decide +kernel
theorem dX2_dossierAt_13 : decode cX2_dossierAt 13 = .ok (.aload_n 0, 1) := by decide +kernel
theorem dX2_dossierAt_14 : decode cX2_dossierAt 14 = .ok (.getfield 21, 3) := by decide +kernel
theorem dX2_dossierAt_17 : decode cX2_dossierAt 17 = .ok (.iload_n 1, 1) := by decide +kernel
theorem dX2_dossierAt_18 : decode cX2_dossierAt 18 = .ok (.aaload, 1) := by decide +kernel
theorem dX2_dossierAt_19 : decode cX2_dossierAt 19 = .ok (.goto 4, 3) := by decide +kernel
theorem dX2_dossierAt_22 : decode cX2_dossierAt 22 = .ok (.aconst_null, 1) := by decide +kernel
theorem dX2_dossierAt_23 : decode cX2_dossierAt 23 = .ok (.areturn, 1) := by decide +kernel
set_option maxRecDepth 20000 in
theorem ggX2_hasDossier_X0_isOf : GoodIn wsX2_hasDossier wsX0_isOf := goodIn_r _ [6, 7, 8, 15, 16, 17, 18, 19, 20, 21, 22] (by decide +kernel) (by decide +kernel)
set_option maxRecDepth 20000 in
theorem gX2_hasDossier_X0_isOf : GoodIn wsX2_hasDossier (wsV RX2 157 RX0 yX0_isOf wsX0_isOf) := goodIn_app (goodIn_of _ (by decide +kernel)) ggX2_hasDossier_X0_isOf
theorem dX2_hasDossier_0 : decode cX2_hasDossier 0 = .ok (.aload_n 0, 1) := by decide +kernel
theorem dX2_hasDossier_1 : decode cX2_hasDossier 1 = .ok (.getfield 21, 3) := by decide +kernel
theorem dX2_hasDossier_4 : decode cX2_hasDossier 4 = .ok (.astore_n 3, 1) := by decide +kernel
theorem dX2_hasDossier_5 : decode cX2_hasDossier 5 = .ok (.aload_n 3, 1) := by decide +kernel
theorem dX2_hasDossier_6 : decode cX2_hasDossier 6 = .ok (.arraylength, 1) := by decide +kernel
theorem dX2_hasDossier_7 : decode cX2_hasDossier 7 = .ok (.istore 4, 2) := by decide +kernel
theorem dX2_hasDossier_9 : decode cX2_hasDossier 9 = .ok (.iconst 0, 1) := by decide +kernel
theorem dX2_hasDossier_10 : decode cX2_hasDossier 10 = .ok (.istore 5, 2) := by decide +kernel
theorem dX2_hasDossier_12 : decode cX2_hasDossier 12 = .ok (.iload 5, 2) := by decide +kernel
theorem dX2_hasDossier_14 : decode cX2_hasDossier 14 = .ok (.iload 4, 2) := by decide +kernel
theorem dX2_hasDossier_16 : decode cX2_hasDossier 16 = .ok (.if_icmp .ge 40, 3) := by decide +kernel
theorem dX2_hasDossier_19 : decode cX2_hasDossier 19 = .ok (.aload_n 3, 1) := by decide +kernel
theorem dX2_hasDossier_20 : decode cX2_hasDossier 20 = .ok (.iload 5, 2) := by decide +kernel
theorem dX2_hasDossier_22 : decode cX2_hasDossier 22 = .ok (.aaload, 1) := by decide +kernel
theorem dX2_hasDossier_23 : decode cX2_hasDossier 23 = .ok (.astore 6, 2) := by decide +kernel
theorem dX2_hasDossier_25 : decode cX2_hasDossier 25 = .ok (.aload 6, 2) := by decide +kernel
theorem dX2_hasDossier_27 : decode cX2_hasDossier 27 = .ok (.ifnull 23, 3) := by decide +kernel
theorem dX2_hasDossier_30 : decode cX2_hasDossier 30 = .ok (.aload 6, 2) := by decide +kernel
theorem dX2_hasDossier_32 : decode cX2_hasDossier 32 = .ok (.iload_n 1, 1) := by decide +kernel
theorem dX2_hasDossier_33 : decode cX2_hasDossier 33 = .ok (.invokevirtual 157, 3) := by decide +kernel
theorem dX2_hasDossier_36 : decode cX2_hasDossier 36 = .ok (.ifCond .eq 14, 3) := by decide +kernel
theorem dX2_hasDossier_39 : decode cX2_hasDossier 39 = .ok (.aload 6, 2) := by decide +kernel
theorem dX2_hasDossier_41 : decode cX2_hasDossier 41 = .ok (.iload_n 2, 1) := by decide +kernel
