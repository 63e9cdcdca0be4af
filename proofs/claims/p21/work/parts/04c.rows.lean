theorem dX2_hasDossier_42 : decode cX2_hasDossier 42 = .ok (.invokevirtual 157, 3) := by decide +kernel
theorem dX2_hasDossier_45 : decode cX2_hasDossier 45 = .ok (.ifCond .eq 5, 3) := by decide +kernel
theorem dX2_hasDossier_48 : decode cX2_hasDossier 48 = .ok (.iconst 1, 1) := by decide +kernel
theorem dX2_hasDossier_49 : decode cX2_hasDossier 49 = .ok (.ireturn, 1) := by decide +kernel
theorem dX2_hasDossier_50 : decode cX2_hasDossier 50 = .ok (.iinc 5 1, 3) := by decide +kernel
theorem dX2_hasDossier_53 : decode cX2_hasDossier 53 = .ok (.goto (-41), 3) := by decide +kernel
theorem dX2_hasDossier_56 : decode cX2_hasDossier 56 = .ok (.iconst 0, 1) := by decide +kernel
theorem dX2_hasDossier_57 : decode cX2_hasDossier 57 = .ok (.ireturn, 1) := by decide +kernel
set_option maxRecDepth 20000 in
theorem ggX2_turnoverOf_X1_incomeOf : GoodIn wsX2_turnoverOf wsX1_incomeOf := goodIn_r _ [6, 7, 8, 9, 10, 11, 12, 5, 13, 14, 15, 16, 17, 24, 25, 26, 27, 28, 29] (by decide +kernel) (by decide +kernel)
set_option maxRecDepth 20000 in
theorem gX2_turnoverOf_X1_incomeOf : GoodIn wsX2_turnoverOf (wsV RX2 192 RX1 yX1_incomeOf wsX1_incomeOf) := goodIn_app (goodIn_of _ (by decide +kernel)) ggX2_turnoverOf_X1_incomeOf
theorem dX2_turnoverOf_0 : decode cX2_turnoverOf 0 = .ok (.iconst 0, 1) := by decide +kernel
theorem dX2_turnoverOf_1 : decode cX2_turnoverOf 1 = .ok (.istore_n 2, 1) := by decide +kernel
theorem dX2_turnoverOf_2 : decode cX2_turnoverOf 2 = .ok (.aload_n 0, 1) := by decide +kernel
theorem dX2_turnoverOf_3 : decode cX2_turnoverOf 3 = .ok (.getfield 11, 3) := by decide +kernel
theorem dX2_turnoverOf_6 : decode cX2_turnoverOf 6 = .ok (.astore_n 3, 1) := by decide +kernel
theorem dX2_turnoverOf_7 : decode cX2_turnoverOf 7 = .ok (.aload_n 3, 1) := by decide +kernel
theorem dX2_turnoverOf_8 : decode cX2_turnoverOf 8 = .ok (.arraylength, 1) := by decide +kernel
theorem dX2_turnoverOf_9 : decode cX2_turnoverOf 9 = .ok (.istore 4, 2) := by decide +kernel
theorem dX2_turnoverOf_11 : decode cX2_turnoverOf 11 = .ok (.iconst 0, 1) := by decide +kernel
theorem dX2_turnoverOf_12 : decode cX2_turnoverOf 12 = .ok (.istore 5, 2) := by decide +kernel
theorem dX2_turnoverOf_14 : decode cX2_turnoverOf 14 = .ok (.iload 5, 2) := by decide +kernel
theorem dX2_turnoverOf_16 : decode cX2_turnoverOf 16 = .ok (.iload 4, 2) := by decide +kernel
theorem dX2_turnoverOf_18 : decode cX2_turnoverOf 18 = .ok (.if_icmp .ge 29, 3) := by decide +kernel
theorem dX2_turnoverOf_21 : decode cX2_turnoverOf 21 = .ok (.aload_n 3, 1) := by decide +kernel
theorem dX2_turnoverOf_22 : decode cX2_turnoverOf 22 = .ok (.iload 5, 2) := by decide +kernel
theorem dX2_turnoverOf_24 : decode cX2_turnoverOf 24 = .ok (.aaload, 1) := by decide +kernel
theorem dX2_turnoverOf_25 : decode cX2_turnoverOf 25 = .ok (.astore 6, 2) := by decide +kernel
theorem dX2_turnoverOf_27 : decode cX2_turnoverOf 27 = .ok (.aload 6, 2) := by decide +kernel
theorem dX2_turnoverOf_29 : decode cX2_turnoverOf 29 = .ok (.ifnull 12, 3) := by decide +kernel
theorem dX2_turnoverOf_32 : decode cX2_turnoverOf 32 = .ok (.iload_n 2, 1) := by decide +kernel
theorem dX2_turnoverOf_33 : decode cX2_turnoverOf 33 = .ok (.aload 6, 2) := by decide +kernel
theorem dX2_turnoverOf_35 : decode cX2_turnoverOf 35 = .ok (.iload_n 1, 1) := by decide +kernel
theorem dX2_turnoverOf_36 : decode cX2_turnoverOf 36 = .ok (.invokevirtual 192, 3) := by decide +kernel
theorem dX2_turnoverOf_39 : decode cX2_turnoverOf 39 = .ok (.iadd, 1) := by decide +kernel
theorem dX2_turnoverOf_40 : decode cX2_turnoverOf 40 = .ok (.istore_n 2, 1) := by decide +kernel
theorem dX2_turnoverOf_41 : decode cX2_turnoverOf 41 = .ok (.iinc 5 1, 3) := by decide +kernel
theorem dX2_turnoverOf_44 : decode cX2_turnoverOf 44 = .ok (.goto (-30), 3) := by decide +kernel
theorem dX2_turnoverOf_47 : decode cX2_turnoverOf 47 = .ok (.iload_n 2, 1) := by decide +kernel
theorem dX2_turnoverOf_48 : decode cX2_turnoverOf 48 = .ok (.ireturn, 1) := by decide +kernel
set_option maxRecDepth 20000 in
theorem ggX2_suspicionOf_X2_countOf : GoodIn wsX2_suspicionOf wsX2_countOf := goodIn_r _ [6, 7, 8, 9, 5, 10, 1, 11, 12, 13, 14, 15, 16, 17, 18, 19, 20, 21, 22, 23, 24, 25, 26, 27, 28, 29, 30, 31, 32, 33, 34, 35, 36, 37, 38, 39, 40, 41, 42, 43, 44, 45, 46, 47, 48, 49, 50, 51, 52, 53, 54, 55, 56, 57, 58, 59, 60, 61, 62, 63, 64, 65, 66] (by decide +kernel) (by decide +kernel)
set_option maxRecDepth 20000 in
theorem gX2_suspicionOf_X2_countOf : GoodIn wsX2_suspicionOf (wsV RX2 130 RX2 yX2_countOf wsX2_countOf) := goodIn_app (goodIn_of _ (by decide +kernel)) ggX2_suspicionOf_X2_countOf
theorem dX2_suspicionOf_0 : decode cX2_suspicionOf 0 = .ok (.iconst 0, 1) := by decide +kernel
theorem dX2_suspicionOf_1 : decode cX2_suspicionOf 1 = .ok (.istore_n 3, 1) := by decide +kernel
theorem dX2_suspicionOf_2 : decode cX2_suspicionOf 2 = .ok (.iconst 0, 1) := by decide +kernel
theorem dX2_suspicionOf_3 : decode cX2_suspicionOf 3 = .ok (.istore 4, 2) := by decide +kernel
theorem dX2_suspicionOf_5 : decode cX2_suspicionOf 5 = .ok (.iload 4, 2) := by decide +kernel
theorem dX2_suspicionOf_7 : decode cX2_suspicionOf 7 = .ok (.aload_n 0, 1) := by decide +kernel
theorem dX2_suspicionOf_8 : decode cX2_suspicionOf 8 = .ok (.getfield 11, 3) := by decide +kernel
theorem dX2_suspicionOf_11 : decode cX2_suspicionOf 11 = .ok (.arraylength, 1) := by decide +kernel
theorem dX2_suspicionOf_12 : decode cX2_suspicionOf 12 = .ok (.if_icmp .ge 20, 3) := by decide +kernel
theorem dX2_suspicionOf_15 : decode cX2_suspicionOf 15 = .ok (.iload_n 3, 1) := by decide +kernel
theorem dX2_suspicionOf_16 : decode cX2_suspicionOf 16 = .ok (.aload_n 0, 1) := by decide +kernel
theorem dX2_suspicionOf_17 : decode cX2_suspicionOf 17 = .ok (.iload 4, 2) := by decide +kernel
theorem dX2_suspicionOf_19 : decode cX2_suspicionOf 19 = .ok (.iload_n 1, 1) := by decide +kernel
theorem dX2_suspicionOf_20 : decode cX2_suspicionOf 20 = .ok (.iload_n 2, 1) := by decide +kernel
theorem dX2_suspicionOf_21 : decode cX2_suspicionOf 21 = .ok (.invokevirtual 130, 3) := by decide +kernel
theorem dX2_suspicionOf_24 : decode cX2_suspicionOf 24 = .ok (.iadd, 1) := by decide +kernel
theorem dX2_suspicionOf_25 : decode cX2_suspicionOf 25 = .ok (.istore_n 3, 1) := by decide +kernel
theorem dX2_suspicionOf_26 : decode cX2_suspicionOf 26 = .ok (.iinc 4 1, 3) := by decide +kernel
theorem dX2_suspicionOf_29 : decode cX2_suspicionOf 29 = .ok (.goto (-24), 3) := by decide +kernel
theorem dX2_suspicionOf_32 : decode cX2_suspicionOf 32 = .ok (.iload_n 3, 1) := by decide +kernel
theorem dX2_suspicionOf_33 : decode cX2_suspicionOf 33 = .ok (.ireturn, 1) := by decide +kernel
set_option maxRecDepth 20000 in
theorem ggX2_countOf_X2_tenderAt : GoodIn wsX2_countOf wsX2_tenderAt := goodIn_r _ [5, 6, 51, 52, 53, 54, 55, 56] (by decide +kernel) (by decide +kernel)
set_option maxRecDepth 20000 in
theorem gX2_countOf_X2_tenderAt : GoodIn wsX2_countOf (wsV RX2 43 RX2 yX2_tenderAt wsX2_tenderAt) := goodIn_app (goodIn_of _ (by decide +kernel)) ggX2_countOf_X2_tenderAt
set_option maxRecDepth 20000 in
theorem ggX2_countOf_X1_winner : GoodIn wsX2_countOf wsX1_winner := goodIn_r _ [11, 12, 57, 58, 59, 60, 61, 62] (by decide +kernel) (by decide +kernel)
set_option maxRecDepth 20000 in
theorem gX2_countOf_X1_winner : GoodIn wsX2_countOf (wsV RX2 101 RX1 yX1_winner wsX1_winner) := goodIn_app (goodIn_of _ (by decide +kernel)) ggX2_countOf_X1_winner
set_option maxRecDepth 20000 in
theorem ggX2_countOf_X1_signsOfLoser : GoodIn wsX2_countOf wsX1_signsOfLoser := goodIn_r _ [16, 17, 18, 19, 20, 10, 21, 22, 23, 24, 4, 25, 26, 27, 28, 29, 30, 31, 32, 33, 12, 34, 35, 36, 37, 38, 39, 40, 41, 57, 58, 59, 60, 61, 62] (by decide +kernel) (by decide +kernel)
set_option maxRecDepth 20000 in
theorem gX2_countOf_X1_signsOfLoser : GoodIn wsX2_countOf (wsV RX2 195 RX1 yX1_signsOfLoser wsX1_signsOfLoser) := goodIn_app (goodIn_of _ (by decide +kernel)) ggX2_countOf_X1_signsOfLoser
set_option maxRecDepth 20000 in
theorem ggX2_countOf_X1_isStanding : GoodIn wsX2_countOf wsX1_isStanding := goodIn_r _ [21, 22, 23, 24, 4, 25, 57, 58, 59, 60, 61, 62] (by decide +kernel) (by decide +kernel)
set_option maxRecDepth 20000 in
theorem gX2_countOf_X1_isStanding : GoodIn wsX2_countOf (wsV RX2 83 RX1 yX1_isStanding wsX1_isStanding) := goodIn_app (goodIn_of _ (by decide +kernel)) ggX2_countOf_X1_isStanding
set_option maxRecDepth 20000 in
theorem ggX2_countOf_X2_lastWinnerBefore : GoodIn wsX2_countOf wsX2_lastWinnerBefore := goodIn_r _ [46, 1, 2, 3, 4, 5, 6, 47, 48, 49, 10, 50, 12, 42, 19, 20, 21, 22, 23, 24, 25, 7, 8, 9, 11, 51, 52, 53, 54, 55, 56, 57, 58, 59, 60, 61, 62] (by decide +kernel) (by decide +kernel)
set_option maxRecDepth 20000 in
theorem gX2_countOf_X2_lastWinnerBefore : GoodIn wsX2_countOf (wsV RX2 198 RX2 yX2_lastWinnerBefore wsX2_lastWinnerBefore) := goodIn_app (goodIn_of _ (by decide +kernel)) ggX2_countOf_X2_lastWinnerBefore
theorem dX2_countOf_0 : decode cX2_countOf 0 = .ok (.aload_n 0, 1) := by decide +kernel
theorem dX2_countOf_1 : decode cX2_countOf 1 = .ok (.iload_n 1, 1) := by decide +kernel
theorem dX2_countOf_2 : decode cX2_countOf 2 = .ok (.invokevirtual 43, 3) := by decide +kernel
theorem dX2_countOf_5 : decode cX2_countOf 5 = .ok (.astore 4, 2) := by decide +kernel
theorem dX2_countOf_7 : decode cX2_countOf 7 = .ok (.aload 4, 2) := by decide +kernel
theorem dX2_countOf_9 : decode cX2_countOf 9 = .ok (.ifnonnull 5, 3) := by decide +kernel
theorem dX2_countOf_12 : decode cX2_countOf 12 = .ok (.iconst 0, 1) := by decide +kernel
theorem dX2_countOf_13 : decode cX2_countOf 13 = .ok (.ireturn, 1) := by decide +kernel
theorem dX2_countOf_14 : decode cX2_countOf 14 = .ok (.aload 4, 2) := by decide +kernel
theorem dX2_countOf_16 : decode cX2_countOf 16 = .ok (.invokevirtual 101, 3) := by decide +kernel
theorem dX2_countOf_19 : decode cX2_countOf 19 = .ok (.istore 5, 2) := by decide +kernel
theorem dX2_countOf_21 : decode cX2_countOf 21 = .ok (.iload 5, 2) := by decide +kernel
theorem dX2_countOf_23 : decode cX2_countOf 23 = .ok (.iload_n 2, 1) := by decide +kernel
theorem dX2_countOf_24 : decode cX2_countOf 24 = .ok (.if_icmp .eq 11, 3) := by decide +kernel
theorem dX2_countOf_27 : decode cX2_countOf 27 = .ok (.iload 5, 2) := by decide +kernel
theorem dX2_countOf_29 : decode cX2_countOf 29 = .ok (.iload_n 3, 1) := by decide +kernel
theorem dX2_countOf_30 : decode cX2_countOf 30 = .ok (.if_icmp .eq 5, 3) := by decide +kernel
theorem dX2_countOf_33 : decode cX2_countOf 33 = .ok (.iconst 0, 1) := by decide +kernel
theorem dX2_countOf_34 : decode cX2_countOf 34 = .ok (.ireturn, 1) := by decide +kernel
theorem dX2_countOf_35 : decode cX2_countOf 35 = .ok (.iload 5, 2) := by decide +kernel
theorem dX2_countOf_37 : decode cX2_countOf 37 = .ok (.iload_n 2, 1) := by decide +kernel
theorem dX2_countOf_38 : decode cX2_countOf 38 = .ok (.if_icmp .ne 7, 3) := by decide +kernel
theorem dX2_countOf_41 : decode cX2_countOf 41 = .ok (.iload_n 3, 1) := by decide +kernel
theorem dX2_countOf_42 : decode cX2_countOf 42 = .ok (.goto 4, 3) := by decide +kernel
theorem dX2_countOf_45 : decode cX2_countOf 45 = .ok (.iload_n 2, 1) := by decide +kernel
theorem dX2_countOf_46 : decode cX2_countOf 46 = .ok (.istore 6, 2) := by decide +kernel
theorem dX2_countOf_48 : decode cX2_countOf 48 = .ok (.aload 4, 2) := by decide +kernel
theorem dX2_countOf_50 : decode cX2_countOf 50 = .ok (.iload 6, 2) := by decide +kernel
theorem dX2_countOf_52 : decode cX2_countOf 52 = .ok (.invokevirtual 195, 3) := by decide +kernel
theorem dX2_countOf_55 : decode cX2_countOf 55 = .ok (.istore 7, 2) := by decide +kernel
theorem dX2_countOf_57 : decode cX2_countOf 57 = .ok (.aload 4, 2) := by decide +kernel
theorem dX2_countOf_59 : decode cX2_countOf 59 = .ok (.iload 6, 2) := by decide +kernel
theorem dX2_countOf_61 : decode cX2_countOf 61 = .ok (.invokevirtual 83, 3) := by decide +kernel
theorem dX2_countOf_64 : decode cX2_countOf 64 = .ok (.ifCond .eq 20, 3) := by decide +kernel
theorem dX2_countOf_67 : decode cX2_countOf 67 = .ok (.aload_n 0, 1) := by decide +kernel
theorem dX2_countOf_68 : decode cX2_countOf 68 = .ok (.iload_n 1, 1) := by decide +kernel
theorem dX2_countOf_69 : decode cX2_countOf 69 = .ok (.iload 5, 2) := by decide +kernel
theorem dX2_countOf_71 : decode cX2_countOf 71 = .ok (.iload 6, 2) := by decide +kernel
theorem dX2_countOf_73 : decode cX2_countOf 73 = .ok (.invokevirtual 198, 3) := by decide +kernel
theorem dX2_countOf_76 : decode cX2_countOf 76 = .ok (.iload 6, 2) := by decide +kernel
theorem dX2_countOf_78 : decode cX2_countOf 78 = .ok (.if_icmp .ne 6, 3) := by decide +kernel
theorem dX2_countOf_81 : decode cX2_countOf 81 = .ok (.iinc 7 4, 3) := by decide +kernel
theorem dX2_countOf_84 : decode cX2_countOf 84 = .ok (.iload 7, 2) := by decide +kernel
theorem dX2_countOf_86 : decode cX2_countOf 86 = .ok (.ireturn, 1) := by decide +kernel
set_option maxRecDepth 20000 in
theorem ggX2_lastWinnerBefore_X2_tenderAt : GoodIn wsX2_lastWinnerBefore wsX2_tenderAt := goodIn_r _ [5, 6, 25, 26, 27, 28, 29, 30] (by decide +kernel) (by decide +kernel)
set_option maxRecDepth 20000 in
theorem gX2_lastWinnerBefore_X2_tenderAt : GoodIn wsX2_lastWinnerBefore (wsV RX2 43 RX2 yX2_tenderAt wsX2_tenderAt) := goodIn_app (goodIn_of _ (by decide +kernel)) ggX2_lastWinnerBefore_X2_tenderAt
set_option maxRecDepth 20000 in
theorem ggX2_lastWinnerBefore_X1_isAwarded : GoodIn wsX2_lastWinnerBefore wsX1_isAwarded := goodIn_r _ [11, 12, 31, 32, 33, 34, 35, 36] (by decide +kernel) (by decide +kernel)
set_option maxRecDepth 20000 in
theorem gX2_lastWinnerBefore_X1_isAwarded : GoodIn wsX2_lastWinnerBefore (wsV RX2 104 RX1 yX1_isAwarded wsX1_isAwarded) := goodIn_app (goodIn_of _ (by decide +kernel)) ggX2_lastWinnerBefore_X1_isAwarded
set_option maxRecDepth 20000 in
theorem ggX2_lastWinnerBefore_X1_isStanding : GoodIn wsX2_lastWinnerBefore wsX1_isStanding := goodIn_r _ [16, 17, 18, 19, 4, 20, 31, 32, 33, 34, 35, 36] (by decide +kernel) (by decide +kernel)
set_option maxRecDepth 20000 in
theorem gX2_lastWinnerBefore_X1_isStanding : GoodIn wsX2_lastWinnerBefore (wsV RX2 83 RX1 yX1_isStanding wsX1_isStanding) := goodIn_app (goodIn_of _ (by decide +kernel)) ggX2_lastWinnerBefore_X1_isStanding
set_option maxRecDepth 20000 in
theorem ggX2_lastWinnerBefore_X1_winner : GoodIn wsX2_lastWinnerBefore wsX1_winner := goodIn_r _ [24, 12, 31, 32, 33, 34, 35, 36] (by decide +kernel) (by decide +kernel)
set_option maxRecDepth 20000 in
theorem gX2_lastWinnerBefore_X1_winner : GoodIn wsX2_lastWinnerBefore (wsV RX2 101 RX1 yX1_winner wsX1_winner) := goodIn_app (goodIn_of _ (by decide +kernel)) ggX2_lastWinnerBefore_X1_winner
theorem dX2_lastWinnerBefore_0 : decode cX2_lastWinnerBefore 0 = .ok (.iload_n 1, 1) := by decide +kernel
theorem dX2_lastWinnerBefore_1 : decode cX2_lastWinnerBefore 1 = .ok (.iconst 1, 1) := by decide +kernel
theorem dX2_lastWinnerBefore_2 : decode cX2_lastWinnerBefore 2 = .ok (.isub, 1) := by decide +kernel
theorem dX2_lastWinnerBefore_3 : decode cX2_lastWinnerBefore 3 = .ok (.istore 4, 2) := by decide +kernel
theorem dX2_lastWinnerBefore_5 : decode cX2_lastWinnerBefore 5 = .ok (.iload 4, 2) := by decide +kernel
theorem dX2_lastWinnerBefore_7 : decode cX2_lastWinnerBefore 7 = .ok (.ifCond .lt 54, 3) := by decide +kernel
theorem dX2_lastWinnerBefore_10 : decode cX2_lastWinnerBefore 10 = .ok (.aload_n 0, 1) := by decide +kernel
theorem dX2_lastWinnerBefore_11 : decode cX2_lastWinnerBefore 11 = .ok (.iload 4, 2) := by decide +kernel
theorem dX2_lastWinnerBefore_13 : decode cX2_lastWinnerBefore 13 = .ok (.invokevirtual 43, 3) := by decide +kernel
theorem dX2_lastWinnerBefore_16 : decode cX2_lastWinnerBefore 16 = .ok (.astore 5, 2) := by decide +kernel
theorem dX2_lastWinnerBefore_18 : decode cX2_lastWinnerBefore 18 = .ok (.aload 5, 2) := by decide +kernel
theorem dX2_lastWinnerBefore_20 : decode cX2_lastWinnerBefore 20 = .ok (.ifnull 35, 3) := by decide +kernel
theorem dX2_lastWinnerBefore_23 : decode cX2_lastWinnerBefore 23 = .ok (.aload 5, 2) := by decide +kernel
theorem dX2_lastWinnerBefore_25 : decode cX2_lastWinnerBefore 25 = .ok (.invokevirtual 104, 3) := by decide +kernel
theorem dX2_lastWinnerBefore_28 : decode cX2_lastWinnerBefore 28 = .ok (.ifCond .eq 27, 3) := by decide +kernel
theorem dX2_lastWinnerBefore_31 : decode cX2_lastWinnerBefore 31 = .ok (.aload 5, 2) := by decide +kernel
theorem dX2_lastWinnerBefore_33 : decode cX2_lastWinnerBefore 33 = .ok (.iload_n 2, 1) := by decide +kernel
theorem dX2_lastWinnerBefore_34 : decode cX2_lastWinnerBefore 34 = .ok (.invokevirtual 83, 3) := by decide +kernel
theorem dX2_lastWinnerBefore_37 : decode cX2_lastWinnerBefore 37 = .ok (.ifCond .eq 18, 3) := by decide +kernel
theorem dX2_lastWinnerBefore_40 : decode cX2_lastWinnerBefore 40 = .ok (.aload 5, 2) := by decide +kernel
theorem dX2_lastWinnerBefore_42 : decode cX2_lastWinnerBefore 42 = .ok (.iload_n 3, 1) := by decide +kernel
theorem dX2_lastWinnerBefore_43 : decode cX2_lastWinnerBefore 43 = .ok (.invokevirtual 83, 3) := by decide +kernel
theorem dX2_lastWinnerBefore_46 : decode cX2_lastWinnerBefore 46 = .ok (.ifCond .eq 9, 3) := by decide +kernel
theorem dX2_lastWinnerBefore_49 : decode cX2_lastWinnerBefore 49 = .ok (.aload 5, 2) := by decide +kernel
theorem dX2_lastWinnerBefore_51 : decode cX2_lastWinnerBefore 51 = .ok (.invokevirtual 101, 3) := by decide +kernel
theorem dX2_lastWinnerBefore_54 : decode cX2_lastWinnerBefore 54 = .ok (.ireturn, 1) := by decide +kernel
theorem dX2_lastWinnerBefore_55 : decode cX2_lastWinnerBefore 55 = .ok (.iinc 4 (-1), 3) := by decide +kernel
theorem dX2_lastWinnerBefore_58 : decode cX2_lastWinnerBefore 58 = .ok (.goto (-53), 3) := by decide +kernel
theorem dX2_lastWinnerBefore_61 : decode cX2_lastWinnerBefore 61 = .ok (.iconst (-1), 1) := by decide +kernel
theorem dX2_lastWinnerBefore_62 : decode cX2_lastWinnerBefore 62 = .ok (.ireturn, 1) := by decide +kernel
set_option maxRecDepth 20000 in
theorem ggX2_settle_X2_isBidder : GoodIn wsX2_settle wsX2_isBidder := goodIn_r _ [9] (by decide +kernel) (by decide +kernel)
set_option maxRecDepth 20000 in
theorem gX2_settle_X2_isBidder : GoodIn wsX2_settle (va_wsS RX2 52 yX2_isBidder wsX2_isBidder) := goodIn_app (goodIn_of _ (by decide +kernel)) ggX2_settle_X2_isBidder
set_option maxRecDepth 20000 in
theorem ggX2_settle_X2_turnoverOf : GoodIn wsX2_settle wsX2_turnoverOf := goodIn_r _ [13, 14, 15, 16, 17, 18, 19, 20, 21, 22, 23, 24, 25, 26, 27, 7, 8, 9, 41, 42, 43, 44, 45, 46, 47, 48, 49, 50, 51, 52] (by decide +kernel) (by decide +kernel)
set_option maxRecDepth 20000 in
theorem gX2_settle_X2_turnoverOf : GoodIn wsX2_settle (wsV RX2 117 RX2 yX2_turnoverOf wsX2_turnoverOf) := goodIn_app (goodIn_of _ (by decide +kernel)) ggX2_settle_X2_turnoverOf
set_option maxRecDepth 20000 in
theorem ggX2_settle_X0_lenientFine : GoodIn wsX2_settle wsX0_lenientFine := goodIn_r _ [32, 33, 34, 35, 7, 8, 9, 53, 54, 55, 56, 57, 58, 59, 60] (by decide +kernel) (by decide +kernel)
set_option maxRecDepth 20000 in
theorem gX2_settle_X0_lenientFine : GoodIn wsX2_settle (wsV RX2 201 RX0 yX0_lenientFine wsX0_lenientFine) := goodIn_app (goodIn_of _ (by decide +kernel)) ggX2_settle_X0_lenientFine
set_option maxRecDepth 20000 in
theorem ggX2_settle_X0_impose : GoodIn wsX2_settle wsX0_impose := goodIn_r _ [39, 40, 7, 8, 9, 53, 54, 55, 56, 57, 58, 59, 60] (by decide +kernel) (by decide +kernel)
set_option maxRecDepth 20000 in
theorem gX2_settle_X0_impose : GoodIn wsX2_settle (wsV RX2 209 RX0 yX0_impose wsX0_impose) := goodIn_app (goodIn_of _ (by decide +kernel)) ggX2_settle_X0_impose
theorem dX2_settle_0 : decode cX2_settle 0 = .ok (.iload_n 2, 1) := by decide +kernel
theorem dX2_settle_1 : decode cX2_settle 1 = .ok (.invokestatic 52, 3) := by decide +kernel
theorem dX2_settle_4 : decode cX2_settle 4 = .ok (.ifCond .ne 5, 3) := by decide +kernel
theorem dX2_settle_7 : decode cX2_settle 7 = .ok (.iconst 0, 1) := by decide +kernel
theorem dX2_settle_8 : decode cX2_settle 8 = .ok (.ireturn, 1) := by decide +kernel
theorem dX2_settle_9 : decode cX2_settle 9 = .ok (.aload_n 1, 1) := by decide +kernel
theorem dX2_settle_10 : decode cX2_settle 10 = .ok (.iload_n 2, 1) := by decide +kernel
theorem dX2_settle_11 : decode cX2_settle 11 = .ok (.aload_n 0, 1) := by decide +kernel
theorem dX2_settle_12 : decode cX2_settle 12 = .ok (.iload_n 2, 1) := by decide +kernel
theorem dX2_settle_13 : decode cX2_settle 13 = .ok (.invokevirtual 117, 3) := by decide +kernel
theorem dX2_settle_16 : decode cX2_settle 16 = .ok (.bipush 10, 2) := by decide +kernel
theorem dX2_settle_18 : decode cX2_settle 18 = .ok (.idiv, 1) := by decide +kernel
theorem dX2_settle_19 : decode cX2_settle 19 = .ok (.invokevirtual 201, 3) := by decide +kernel
theorem dX2_settle_22 : decode cX2_settle 22 = .ok (.istore_n 3, 1) := by decide +kernel
theorem dX2_settle_23 : decode cX2_settle 23 = .ok (.iload_n 3, 1) := by decide +kernel
theorem dX2_settle_24 : decode cX2_settle 24 = .ok (.aload_n 0, 1) := by decide +kernel
theorem dX2_settle_25 : decode cX2_settle 25 = .ok (.getfield 28, 3) := by decide +kernel
theorem dX2_settle_28 : decode cX2_settle 28 = .ok (.iload_n 2, 1) := by decide +kernel
theorem dX2_settle_29 : decode cX2_settle 29 = .ok (.iaload, 1) := by decide +kernel
theorem dX2_settle_30 : decode cX2_settle 30 = .ok (.invokestatic 204, 3) := by decide +kernel
theorem dX2_settle_33 : decode cX2_settle 33 = .ok (.istore 4, 2) := by decide +kernel
theorem dX2_settle_35 : decode cX2_settle 35 = .ok (.aload_n 0, 1) := by decide +kernel
theorem dX2_settle_36 : decode cX2_settle 36 = .ok (.getfield 28, 3) := by decide +kernel
theorem dX2_settle_39 : decode cX2_settle 39 = .ok (.iload_n 2, 1) := by decide +kernel
theorem dX2_settle_40 : decode cX2_settle 40 = .ok (.dup2, 1) := by decide +kernel
theorem dX2_settle_41 : decode cX2_settle 41 = .ok (.iaload, 1) := by decide +kernel
theorem dX2_settle_42 : decode cX2_settle 42 = .ok (.iload 4, 2) := by decide +kernel
theorem dX2_settle_44 : decode cX2_settle 44 = .ok (.isub, 1) := by decide +kernel
theorem dX2_settle_45 : decode cX2_settle 45 = .ok (.iastore, 1) := by decide +kernel
theorem dX2_settle_46 : decode cX2_settle 46 = .ok (.aload_n 1, 1) := by decide +kernel
theorem dX2_settle_47 : decode cX2_settle 47 = .ok (.iload_n 2, 1) := by decide +kernel
theorem dX2_settle_48 : decode cX2_settle 48 = .ok (.iload_n 3, 1) := by decide +kernel
theorem dX2_settle_49 : decode cX2_settle 49 = .ok (.iload 4, 2) := by decide +kernel
theorem dX2_settle_51 : decode cX2_settle 51 = .ok (.isub, 1) := by decide +kernel
theorem dX2_settle_52 : decode cX2_settle 52 = .ok (.invokevirtual 209, 3) := by decide +kernel
theorem dX2_settle_55 : decode cX2_settle 55 = .ok (.iload_n 3, 1) := by decide +kernel
theorem dX2_settle_56 : decode cX2_settle 56 = .ok (.iload 4, 2) := by decide +kernel
theorem dX2_settle_58 : decode cX2_settle 58 = .ok (.isub, 1) := by decide +kernel
theorem dX2_settle_59 : decode cX2_settle 59 = .ok (.ireturn, 1) := by decide +kernel
theorem dJ9_min_7cf53_0 : decode cJ9_min_7cf53 0 = .ok (.iload_n 0, 1) := by decide +kernel
theorem dJ9_min_7cf53_1 : decode cJ9_min_7cf53 1 = .ok (.iload_n 1, 1) := by decide +kernel
theorem dJ9_min_7cf53_2 : decode cJ9_min_7cf53 2 = .ok (.if_icmp .gt 7, 3) := by decide +kernel
theorem dJ9_min_7cf53_5 : decode cJ9_min_7cf53 5 = .ok (.iload_n 0, 1) := by decide +kernel
theorem dJ9_min_7cf53_6 : decode cJ9_min_7cf53 6 = .ok (.goto 4, 3) := by decide +kernel
theorem dJ9_min_7cf53_9 : decode cJ9_min_7cf53 9 = .ok (.iload_n 1, 1) := by decide +kernel
theorem dJ9_min_7cf53_10 : decode cJ9_min_7cf53 10 = .ok (.ireturn, 1) := by decide +kernel
theorem dL_cell_0 : decode cL_cell 0 = .ok (.iload_n 1, 1) := by decide +kernel
theorem dL_cell_1 : decode cL_cell 1 = .ok (.aload_n 0, 1) := by decide +kernel
theorem dL_cell_2 : decode cL_cell 2 = .ok (.arraylength, 1) := by decide +kernel
theorem dL_cell_3 : decode cL_cell 3 = .ok (.if_icmp .ge 9, 3) := by decide +kernel
theorem dL_cell_6 : decode cL_cell 6 = .ok (.aload_n 0, 1) := by decide +kernel
theorem dL_cell_7 : decode cL_cell 7 = .ok (.iload_n 1, 1) := by decide +kernel
theorem dL_cell_8 : decode cL_cell 8 = .ok (.iaload, 1) := by decide +kernel
theorem dL_cell_9 : decode cL_cell 9 = .ok (.goto 13, 3) := by decide +kernel
theorem dL_cell_12 : decode cL_cell 12 = .ok (.ldc 7, 2) := by decide +kernel
theorem dL_cell_14 : decode cL_cell 14 = .ok (.iload_n 1, 1) := by decide +kernel
theorem dL_cell_15 : decode cL_cell 15 = .ok (.bipush 35, 2) := by decide +kernel
theorem dL_cell_17 : decode cL_cell 17 = .ok (.iadd, 1) := by decide +kernel
theorem dL_cell_18 : decode cL_cell 18 = .ok (.imul, 1) := by decide +kernel
theorem dL_cell_19 : decode cL_cell 19 = .ok (.ldc 8, 2) := by decide +kernel
theorem dL_cell_21 : decode cL_cell 21 = .ok (.iadd, 1) := by decide +kernel
theorem dL_cell_22 : decode cL_cell 22 = .ok (.ireturn, 1) := by decide +kernel
theorem dL_low_0 : decode cL_low 0 = .ok (.iload_n 0, 1) := by decide +kernel
theorem dL_low_1 : decode cL_low 1 = .ok (.ldc 9, 2) := by decide +kernel
theorem dL_low_3 : decode cL_low 3 = .ok (.iand, 1) := by decide +kernel
theorem dL_low_4 : decode cL_low 4 = .ok (.iload_n 1, 1) := by decide +kernel
theorem dL_low_5 : decode cL_low 5 = .ok (.irem, 1) := by decide +kernel
theorem dL_low_6 : decode cL_low 6 = .ok (.ireturn, 1) := by decide +kernel
set_option maxRecDepth 20000 in
theorem ggL_calls_X2_bid : GoodIn wsL_calls wsX2_bid := goodIn_ca (goodIn_ca (goodIn_ca (goodIn_r _ [7, 8, 9, 10, 11, 12, 13, 14, 15, 16, 6, 17, 18, 19, 20, 21, 22, 23, 24, 25, 26, 27, 28, 29, 30, 31, 32, 33, 34, 35, 36, 37, 38, 39, 40, 41, 42, 43, 44, 45, 46, 47, 48, 49, 218, 219, 220, 221, 222, 223, 224, 225, 226, 227, 228, 229] (by decide +kernel) (by decide +kernel)) (goodIn_sub (fun _ h => List.mem_cons_of_mem _ (List.mem_append_left _ (List.mem_append_left _ (List.mem_append_right _ h)))) (by decide +kernel))) (goodIn_sub (fun _ h => List.mem_cons_of_mem _ (List.mem_append_left _ (List.mem_append_right _ h))) (by decide +kernel))) (goodIn_sub (fun _ h => List.mem_cons_of_mem _ (List.mem_append_right _ h)) (by decide +kernel))
set_option maxRecDepth 20000 in
theorem gL_calls_X2_bid : GoodIn wsL_calls (wsV RL 10 RX2 yX2_bid wsX2_bid) := goodIn_app (goodIn_of _ (by decide +kernel)) ggL_calls_X2_bid
set_option maxRecDepth 20000 in
theorem ggL_calls_X2_withdraw : GoodIn wsL_calls wsX2_withdraw := goodIn_ca (goodIn_ca (goodIn_ca (goodIn_r _ [53, 8, 9, 10, 11, 12, 13, 14, 15, 16, 6, 17, 18, 19, 20, 21, 26, 27, 28, 29, 30, 31, 54, 46, 47, 48, 36, 49, 55, 56, 57, 58, 59, 60, 61, 62, 218, 219, 220, 221, 222, 223, 224, 225, 226, 227, 228, 229] (by decide +kernel) (by decide +kernel)) (goodIn_sub (fun _ h => List.mem_cons_of_mem _ (List.mem_append_left _ (List.mem_append_left _ (List.mem_append_right _ h)))) (by decide +kernel))) (goodIn_sub (fun _ h => List.mem_cons_of_mem _ (List.mem_append_left _ (List.mem_append_right _ h))) (by decide +kernel))) (goodIn_sub (fun _ h => List.mem_cons_of_mem _ (List.mem_append_right _ h)) (by decide +kernel))
set_option maxRecDepth 20000 in
theorem gL_calls_X2_withdraw : GoodIn wsL_calls (wsV RL 16 RX2 yX2_withdraw wsX2_withdraw) := goodIn_app (goodIn_of _ (by decide +kernel)) ggL_calls_X2_withdraw
set_option maxRecDepth 20000 in
theorem ggL_calls_X2_award : GoodIn wsL_calls wsX2_award := goodIn_ca (goodIn_ca (goodIn_r _ [66, 8, 9, 12, 13, 14, 15, 16, 6, 17, 18, 26, 27, 28, 29, 30, 31, 67, 68, 69, 70, 71, 45, 46, 47, 48, 36, 49, 20, 21, 72, 60, 61, 62, 73, 74, 75, 76, 218, 219, 220, 221, 222, 223, 224, 225, 226, 227, 228, 229] (by decide +kernel) (by decide +kernel)) (goodIn_sub (fun _ h => List.mem_cons_of_mem _ (List.mem_append_left _ (List.mem_append_left _ (List.mem_append_right _ h)))) (by decide +kernel))) (goodIn_sub (fun _ h => List.mem_cons_of_mem _ (List.mem_append_right _ h)) (by decide +kernel))
set_option maxRecDepth 20000 in
theorem gL_calls_X2_award : GoodIn wsL_calls (wsV RL 20 RX2 yX2_award wsX2_award) := goodIn_app (goodIn_of _ (by decide +kernel)) ggL_calls_X2_award
set_option maxRecDepth 20000 in
theorem ggL_calls_X2_passOn : GoodIn wsL_calls wsX2_passOn := goodIn_ca (goodIn_ca (goodIn_ca (goodIn_r _ [80, 8, 9, 12, 13, 10, 11, 14, 15, 16, 6, 17, 18, 81, 82, 83, 29, 84, 71, 85, 86, 87, 88, 89, 73, 74, 75, 76, 19, 20, 21, 59, 60, 61, 62, 36, 90, 91, 92, 93, 94, 218, 219, 220, 221, 222, 223, 224, 225, 226, 227, 228, 229] (by decide +kernel) (by decide +kernel)) (goodIn_sub (fun _ h => List.mem_cons_of_mem _ (List.mem_append_left _ (List.mem_append_left _ (List.mem_append_right _ h)))) (by decide +kernel))) (goodIn_sub (fun _ h => List.mem_cons_of_mem _ (List.mem_append_right _ h)) (by decide +kernel))) (goodIn_sub (fun _ h => List.mem_cons_of_mem _ (List.mem_append_left _ (List.mem_append_right _ h))) (by decide +kernel))
set_option maxRecDepth 20000 in
theorem gL_calls_X2_passOn : GoodIn wsL_calls (wsV RL 24 RX2 yX2_passOn wsX2_passOn) := goodIn_app (goodIn_of _ (by decide +kernel)) ggL_calls_X2_passOn
set_option maxRecDepth 20000 in
theorem ggL_calls_X2_file : GoodIn wsL_calls wsX2_file := goodIn_ca (goodIn_ca (goodIn_r _ [98, 10, 11, 12, 13, 99, 100, 101, 102, 103, 104, 18, 105, 106, 6, 107, 19, 20, 21, 108, 109, 110, 111, 112, 113, 114, 115, 116, 117, 118, 119, 120, 121, 122, 123, 124, 125, 14, 15, 16, 17, 73, 74, 75, 29, 76, 71, 126, 127, 128, 129, 89, 45, 46, 47, 48, 36, 49, 72, 60, 61, 62, 130, 131, 132, 133, 134, 33, 34, 35, 135, 136, 137, 138, 54, 139, 140, 141, 142, 81, 82, 83, 84, 143, 144, 145, 146, 147, 148, 149, 150, 151, 152, 153, 154, 155, 156, 157, 158, 159, 160, 218, 219, 220, 221, 222, 223, 230, 231, 232, 233, 234, 235, 236, 237, 224, 225, 226, 227, 228, 229] (by decide +kernel) (by decide +kernel)) (goodIn_sub (fun _ h => List.mem_cons_of_mem _ (List.mem_append_left _ (List.mem_append_right _ h))) (by decide +kernel))) (goodIn_sub (fun _ h => List.mem_cons_of_mem _ (List.mem_append_right _ h)) (by decide +kernel))
set_option maxRecDepth 20000 in
theorem gL_calls_X2_file : GoodIn wsL_calls (wsV RL 27 RX2 yX2_file wsX2_file) := goodIn_app (goodIn_of _ (by decide +kernel)) ggL_calls_X2_file
set_option maxRecDepth 20000 in
theorem ggL_calls_X2_close : GoodIn wsL_calls wsX2_close := goodIn_ca (goodIn_ca (goodIn_r _ [164, 8, 9, 12, 13, 165, 166, 167, 6, 168, 100, 169, 170, 171, 104, 172, 156, 173, 174, 175, 176, 177, 178, 179, 180, 116, 181, 182, 183, 184, 185, 186, 187, 188, 189, 19, 20, 21, 190, 191, 192, 193, 18, 194, 195, 196, 29, 197, 71, 94, 89, 72, 60, 61, 62, 36, 198, 199, 200, 201, 152, 155, 154, 202, 203, 204, 205, 153, 206, 207, 208, 209, 117, 218, 219, 220, 221, 222, 223, 230, 231, 232, 233, 234, 235, 236, 237, 224, 225, 226, 227, 228, 229] (by decide +kernel) (by decide +kernel)) (goodIn_sub (fun _ h => List.mem_cons_of_mem _ (List.mem_append_left _ (List.mem_append_left _ (List.mem_append_right _ h)))) (by decide +kernel))) (goodIn_sub (fun _ h => List.mem_cons_of_mem _ (List.mem_append_right _ h)) (by decide +kernel))
set_option maxRecDepth 20000 in
theorem gL_calls_X2_close : GoodIn wsL_calls (wsV RL 30 RX2 yX2_close wsX2_close) := goodIn_app (goodIn_of _ (by decide +kernel)) ggL_calls_X2_close
set_option maxRecDepth 20000 in
theorem ggL_calls_X2_tell : GoodIn wsL_calls wsX2_tell := goodIn_ca (goodIn_ca (goodIn_ca (goodIn_r _ [213, 8, 9, 10, 11, 12, 13, 165, 166, 167, 6, 168, 100, 14, 15, 16, 17, 18, 112, 113, 114, 104, 115, 116, 117, 169, 170, 171, 172, 156, 214, 215, 216, 217, 150, 152, 155, 20, 21, 218, 219, 220, 221, 222, 223, 230, 231, 232, 233, 234, 235, 236, 237] (by decide +kernel) (by decide +kernel)) (goodIn_sub (fun _ h => List.mem_cons_of_mem _ (List.mem_append_left _ (List.mem_append_left _ (List.mem_append_right _ h)))) (by decide +kernel))) (goodIn_sub (fun _ h => List.mem_cons_of_mem _ (List.mem_append_left _ (List.mem_append_right _ h))) (by decide +kernel))) (goodIn_sub (fun _ h => List.mem_cons_of_mem _ (List.mem_append_right _ h)) (by decide +kernel))
set_option maxRecDepth 20000 in
theorem gL_calls_X2_tell : GoodIn wsL_calls (wsV RL 33 RX2 yX2_tell wsX2_tell) := goodIn_app (goodIn_of _ (by decide +kernel)) ggL_calls_X2_tell
theorem dL_calls_0 : decode cL_calls 0 = .ok (.iload_n 1, 1) := by decide +kernel
theorem dL_calls_1 : decode cL_calls 1 = .ok (.ifCond .ne 14, 3) := by decide +kernel
theorem dL_calls_4 : decode cL_calls 4 = .ok (.aload_n 0, 1) := by decide +kernel
theorem dL_calls_5 : decode cL_calls 5 = .ok (.iload_n 2, 1) := by decide +kernel
theorem dL_calls_6 : decode cL_calls 6 = .ok (.iload_n 3, 1) := by decide +kernel
theorem dL_calls_7 : decode cL_calls 7 = .ok (.iload 4, 2) := by decide +kernel
theorem dL_calls_9 : decode cL_calls 9 = .ok (.invokevirtual 10, 3) := by decide +kernel
theorem dL_calls_12 : decode cL_calls 12 = .ok (.goto 89, 3) := by decide +kernel
theorem dL_calls_15 : decode cL_calls 15 = .ok (.iload_n 1, 1) := by decide +kernel
theorem dL_calls_16 : decode cL_calls 16 = .ok (.iconst 1, 1) := by decide +kernel
theorem dL_calls_17 : decode cL_calls 17 = .ok (.if_icmp .ne 12, 3) := by decide +kernel
theorem dL_calls_20 : decode cL_calls 20 = .ok (.aload_n 0, 1) := by decide +kernel
theorem dL_calls_21 : decode cL_calls 21 = .ok (.iload_n 2, 1) := by decide +kernel
theorem dL_calls_22 : decode cL_calls 22 = .ok (.iload_n 3, 1) := by decide +kernel
theorem dL_calls_23 : decode cL_calls 23 = .ok (.invokevirtual 16, 3) := by decide +kernel
theorem dL_calls_26 : decode cL_calls 26 = .ok (.goto 75, 3) := by decide +kernel
theorem dL_calls_29 : decode cL_calls 29 = .ok (.iload_n 1, 1) := by decide +kernel
theorem dL_calls_30 : decode cL_calls 30 = .ok (.iconst 2, 1) := by decide +kernel
theorem dL_calls_31 : decode cL_calls 31 = .ok (.if_icmp .ne 11, 3) := by decide +kernel
theorem dL_calls_34 : decode cL_calls 34 = .ok (.aload_n 0, 1) := by decide +kernel
theorem dL_calls_35 : decode cL_calls 35 = .ok (.iload_n 2, 1) := by decide +kernel
theorem dL_calls_36 : decode cL_calls 36 = .ok (.invokevirtual 20, 3) := by decide +kernel
theorem dL_calls_39 : decode cL_calls 39 = .ok (.goto 62, 3) := by decide +kernel
theorem dL_calls_42 : decode cL_calls 42 = .ok (.iload_n 1, 1) := by decide +kernel
theorem dL_calls_43 : decode cL_calls 43 = .ok (.iconst 3, 1) := by decide +kernel
theorem dL_calls_44 : decode cL_calls 44 = .ok (.if_icmp .ne 14, 3) := by decide +kernel
theorem dL_calls_47 : decode cL_calls 47 = .ok (.aload_n 0, 1) := by decide +kernel
theorem dL_calls_48 : decode cL_calls 48 = .ok (.iload_n 2, 1) := by decide +kernel
theorem dL_calls_49 : decode cL_calls 49 = .ok (.iload_n 3, 1) := by decide +kernel
theorem dL_calls_50 : decode cL_calls 50 = .ok (.iload 4, 2) := by decide +kernel
theorem dL_calls_52 : decode cL_calls 52 = .ok (.invokevirtual 24, 3) := by decide +kernel
theorem dL_calls_55 : decode cL_calls 55 = .ok (.goto 46, 3) := by decide +kernel
theorem dL_calls_58 : decode cL_calls 58 = .ok (.iload_n 1, 1) := by decide +kernel
theorem dL_calls_59 : decode cL_calls 59 = .ok (.iconst 4, 1) := by decide +kernel
theorem dL_calls_60 : decode cL_calls 60 = .ok (.if_icmp .ne 12, 3) := by decide +kernel
theorem dL_calls_63 : decode cL_calls 63 = .ok (.aload_n 0, 1) := by decide +kernel
theorem dL_calls_64 : decode cL_calls 64 = .ok (.iload_n 2, 1) := by decide +kernel
theorem dL_calls_65 : decode cL_calls 65 = .ok (.iload_n 3, 1) := by decide +kernel
theorem dL_calls_66 : decode cL_calls 66 = .ok (.invokevirtual 27, 3) := by decide +kernel
theorem dL_calls_69 : decode cL_calls 69 = .ok (.goto 32, 3) := by decide +kernel
theorem dL_calls_72 : decode cL_calls 72 = .ok (.iload_n 1, 1) := by decide +kernel
theorem dL_calls_73 : decode cL_calls 73 = .ok (.iconst 5, 1) := by decide +kernel
theorem dL_calls_74 : decode cL_calls 74 = .ok (.if_icmp .ne 11, 3) := by decide +kernel
theorem dL_calls_77 : decode cL_calls 77 = .ok (.aload_n 0, 1) := by decide +kernel
theorem dL_calls_78 : decode cL_calls 78 = .ok (.iload_n 2, 1) := by decide +kernel
theorem dL_calls_79 : decode cL_calls 79 = .ok (.invokevirtual 30, 3) := by decide +kernel
theorem dL_calls_82 : decode cL_calls 82 = .ok (.goto 19, 3) := by decide +kernel
theorem dL_calls_85 : decode cL_calls 85 = .ok (.aload_n 0, 1) := by decide +kernel
theorem dL_calls_86 : decode cL_calls 86 = .ok (.iload_n 2, 1) := by decide +kernel
theorem dL_calls_87 : decode cL_calls 87 = .ok (.iload_n 3, 1) := by decide +kernel
theorem dL_calls_88 : decode cL_calls 88 = .ok (.iload 4, 2) := by decide +kernel
theorem dL_calls_90 : decode cL_calls 90 = .ok (.invokevirtual 33, 3) := by decide +kernel
theorem dL_calls_93 : decode cL_calls 93 = .ok (.ifCond .eq 7, 3) := by decide +kernel
theorem dL_calls_96 : decode cL_calls 96 = .ok (.iconst 1, 1) := by decide +kernel
theorem dL_calls_97 : decode cL_calls 97 = .ok (.goto 4, 3) := by decide +kernel
theorem dL_calls_100 : decode cL_calls 100 = .ok (.iconst 0, 1) := by decide +kernel
theorem dL_calls_101 : decode cL_calls 101 = .ok (.ireturn, 1) := by decide +kernel
theorem dL_calls_102 : decode cL_calls 102 = .ok (.astore 5, 2) := by decide +kernel
theorem dL_calls_104 : decode cL_calls 104 = .ok (.bipush (-2), 2) := by decide +kernel
theorem dL_calls_106 : decode cL_calls 106 = .ok (.ireturn, 1) := by decide +kernel
theorem dL_calls_107 : decode cL_calls 107 = .ok (.astore 5, 2) := by decide +kernel
theorem dL_calls_109 : decode cL_calls 109 = .ok (.bipush (-3), 2) := by decide +kernel
theorem dL_calls_111 : decode cL_calls 111 = .ok (.ireturn, 1) := by decide +kernel
theorem dL_in_0 : decode cL_in 0 = .ok (.aload_n 2, 1) := by decide +kernel
theorem dL_in_1 : decode cL_in 1 = .ok (.iconst 4, 1) := by decide +kernel
theorem dL_in_2 : decode cL_in 2 = .ok (.iload_n 0, 1) := by decide +kernel
theorem dL_in_3 : decode cL_in 3 = .ok (.imul, 1) := by decide +kernel
theorem dL_in_4 : decode cL_in 4 = .ok (.iload_n 1, 1) := by decide +kernel
theorem dL_in_5 : decode cL_in 5 = .ok (.iadd, 1) := by decide +kernel
theorem dL_in_6 : decode cL_in 6 = .ok (.iaload, 1) := by decide +kernel
theorem dL_in_7 : decode cL_in 7 = .ok (.ifCond .le 17, 3) := by decide +kernel
theorem dL_in_10 : decode cL_in 10 = .ok (.aload_n 3, 1) := by decide +kernel
theorem dL_in_11 : decode cL_in 11 = .ok (.iload_n 0, 1) := by decide +kernel
theorem dL_in_12 : decode cL_in 12 = .ok (.iaload, 1) := by decide +kernel
theorem dL_in_13 : decode cL_in 13 = .ok (.iload_n 1, 1) := by decide +kernel
theorem dL_in_14 : decode cL_in 14 = .ok (.ishr, 1) := by decide +kernel
theorem dL_in_15 : decode cL_in 15 = .ok (.iconst 1, 1) := by decide +kernel
theorem dL_in_16 : decode cL_in 16 = .ok (.iand, 1) := by decide +kernel
theorem dL_in_17 : decode cL_in 17 = .ok (.ifCond .ne 7, 3) := by decide +kernel
theorem dL_in_20 : decode cL_in 20 = .ok (.iconst 1, 1) := by decide +kernel
theorem dL_in_21 : decode cL_in 21 = .ok (.goto 4, 3) := by decide +kernel
theorem dL_in_24 : decode cL_in 24 = .ok (.iconst 0, 1) := by decide +kernel
theorem dL_in_25 : decode cL_in 25 = .ok (.ireturn, 1) := by decide +kernel
set_option maxRecDepth 20000 in
theorem ggL_sign_L_in : GoodIn wsL_sign wsL_in := goodIn_r _ [4] (by decide +kernel) (by decide +kernel)
set_option maxRecDepth 20000 in
theorem gL_sign_L_in : GoodIn wsL_sign (va_wsS RL 41 yL_in wsL_in) := goodIn_app (goodIn_of _ (by decide +kernel)) ggL_sign_L_in
theorem dL_sign_0 : decode cL_sign 0 = .ok (.aload_n 3, 1) := by decide +kernel
theorem dL_sign_1 : decode cL_sign 1 = .ok (.iconst 4, 1) := by decide +kernel
theorem dL_sign_2 : decode cL_sign 2 = .ok (.iload_n 0, 1) := by decide +kernel
theorem dL_sign_3 : decode cL_sign 3 = .ok (.imul, 1) := by decide +kernel
theorem dL_sign_4 : decode cL_sign 4 = .ok (.iconst 1, 1) := by decide +kernel
theorem dL_sign_5 : decode cL_sign 5 = .ok (.iadd, 1) := by decide +kernel
theorem dL_sign_6 : decode cL_sign 6 = .ok (.iaload, 1) := by decide +kernel
theorem dL_sign_7 : decode cL_sign 7 = .ok (.istore 6, 2) := by decide +kernel
theorem dL_sign_9 : decode cL_sign 9 = .ok (.aload_n 3, 1) := by decide +kernel
theorem dL_sign_10 : decode cL_sign 10 = .ok (.iconst 4, 1) := by decide +kernel
theorem dL_sign_11 : decode cL_sign 11 = .ok (.iload_n 0, 1) := by decide +kernel
theorem dL_sign_12 : decode cL_sign 12 = .ok (.imul, 1) := by decide +kernel
theorem dL_sign_13 : decode cL_sign 13 = .ok (.iaload, 1) := by decide +kernel
theorem dL_sign_14 : decode cL_sign 14 = .ok (.iconst 1, 1) := by decide +kernel
theorem dL_sign_15 : decode cL_sign 15 = .ok (.if_icmp .ne 15, 3) := by decide +kernel
theorem dL_sign_18 : decode cL_sign 18 = .ok (.iload 6, 2) := by decide +kernel
theorem dL_sign_20 : decode cL_sign 20 = .ok (.iload_n 1, 1) := by decide +kernel
theorem dL_sign_21 : decode cL_sign 21 = .ok (.if_icmp .eq 11, 3) := by decide +kernel
theorem dL_sign_24 : decode cL_sign 24 = .ok (.iload 6, 2) := by decide +kernel
theorem dL_sign_26 : decode cL_sign 26 = .ok (.iload_n 2, 1) := by decide +kernel
theorem dL_sign_27 : decode cL_sign 27 = .ok (.if_icmp .eq 5, 3) := by decide +kernel
theorem dL_sign_30 : decode cL_sign 30 = .ok (.iconst 0, 1) := by decide +kernel
theorem dL_sign_31 : decode cL_sign 31 = .ok (.ireturn, 1) := by decide +kernel
theorem dL_sign_32 : decode cL_sign 32 = .ok (.iload_n 1, 1) := by decide +kernel
theorem dL_sign_33 : decode cL_sign 33 = .ok (.iload_n 2, 1) := by decide +kernel
theorem dL_sign_34 : decode cL_sign 34 = .ok (.iadd, 1) := by decide +kernel
theorem dL_sign_35 : decode cL_sign 35 = .ok (.iload 6, 2) := by decide +kernel
theorem dL_sign_37 : decode cL_sign 37 = .ok (.isub, 1) := by decide +kernel
theorem dL_sign_38 : decode cL_sign 38 = .ok (.istore 7, 2) := by decide +kernel
theorem dL_sign_40 : decode cL_sign 40 = .ok (.aload 4, 2) := by decide +kernel
theorem dL_sign_42 : decode cL_sign 42 = .ok (.iconst 4, 1) := by decide +kernel
theorem dL_sign_43 : decode cL_sign 43 = .ok (.iload_n 0, 1) := by decide +kernel
theorem dL_sign_44 : decode cL_sign 44 = .ok (.imul, 1) := by decide +kernel
theorem dL_sign_45 : decode cL_sign 45 = .ok (.iload 6, 2) := by decide +kernel
theorem dL_sign_47 : decode cL_sign 47 = .ok (.iadd, 1) := by decide +kernel
theorem dL_sign_48 : decode cL_sign 48 = .ok (.iaload, 1) := by decide +kernel
theorem dL_sign_49 : decode cL_sign 49 = .ok (.istore 8, 2) := by decide +kernel
theorem dL_sign_51 : decode cL_sign 51 = .ok (.aload 4, 2) := by decide +kernel
theorem dL_sign_53 : decode cL_sign 53 = .ok (.iconst 4, 1) := by decide +kernel
theorem dL_sign_54 : decode cL_sign 54 = .ok (.iload_n 0, 1) := by decide +kernel
theorem dL_sign_55 : decode cL_sign 55 = .ok (.imul, 1) := by decide +kernel
theorem dL_sign_56 : decode cL_sign 56 = .ok (.iload 7, 2) := by decide +kernel
theorem dL_sign_58 : decode cL_sign 58 = .ok (.iadd, 1) := by decide +kernel
theorem dL_sign_59 : decode cL_sign 59 = .ok (.iaload, 1) := by decide +kernel
theorem dL_sign_60 : decode cL_sign 60 = .ok (.istore 9, 2) := by decide +kernel
theorem dL_sign_62 : decode cL_sign 62 = .ok (.aload 5, 2) := by decide +kernel
theorem dL_sign_64 : decode cL_sign 64 = .ok (.iload_n 0, 1) := by decide +kernel
theorem dL_sign_65 : decode cL_sign 65 = .ok (.iaload, 1) := by decide +kernel
theorem dL_sign_66 : decode cL_sign 66 = .ok (.iload 7, 2) := by decide +kernel
theorem dL_sign_68 : decode cL_sign 68 = .ok (.ishr, 1) := by decide +kernel
theorem dL_sign_69 : decode cL_sign 69 = .ok (.iconst 1, 1) := by decide +kernel
theorem dL_sign_70 : decode cL_sign 70 = .ok (.iand, 1) := by decide +kernel
theorem dL_sign_71 : decode cL_sign 71 = .ok (.iconst 1, 1) := by decide +kernel
theorem dL_sign_72 : decode cL_sign 72 = .ok (.if_icmp .ne 7, 3) := by decide +kernel
theorem dL_sign_75 : decode cL_sign 75 = .ok (.iconst 1, 1) := by decide +kernel
theorem dL_sign_76 : decode cL_sign 76 = .ok (.goto 4, 3) := by decide +kernel
theorem dL_sign_79 : decode cL_sign 79 = .ok (.iconst 0, 1) := by decide +kernel
theorem dL_sign_80 : decode cL_sign 80 = .ok (.istore 10, 2) := by decide +kernel
theorem dL_sign_82 : decode cL_sign 82 = .ok (.iload 10, 2) := by decide +kernel
theorem dL_sign_84 : decode cL_sign 84 = .ok (.aload_n 3, 1) := by decide +kernel
theorem dL_sign_85 : decode cL_sign 85 = .ok (.iconst 4, 1) := by decide +kernel
theorem dL_sign_86 : decode cL_sign 86 = .ok (.iload_n 0, 1) := by decide +kernel
theorem dL_sign_87 : decode cL_sign 87 = .ok (.imul, 1) := by decide +kernel
theorem dL_sign_88 : decode cL_sign 88 = .ok (.iconst 2, 1) := by decide +kernel
theorem dL_sign_89 : decode cL_sign 89 = .ok (.iadd, 1) := by decide +kernel
theorem dL_sign_90 : decode cL_sign 90 = .ok (.iaload, 1) := by decide +kernel
theorem dL_sign_91 : decode cL_sign 91 = .ok (.iload 7, 2) := by decide +kernel
theorem dL_sign_93 : decode cL_sign 93 = .ok (.if_icmp .ne 12, 3) := by decide +kernel
theorem dL_sign_96 : decode cL_sign 96 = .ok (.iload 9, 2) := by decide +kernel
theorem dL_sign_98 : decode cL_sign 98 = .ok (.ifCond .le 7, 3) := by decide +kernel
theorem dL_sign_101 : decode cL_sign 101 = .ok (.iconst 3, 1) := by decide +kernel
theorem dL_sign_102 : decode cL_sign 102 = .ok (.goto 4, 3) := by decide +kernel
theorem dL_sign_105 : decode cL_sign 105 = .ok (.iconst 0, 1) := by decide +kernel
theorem dL_sign_106 : decode cL_sign 106 = .ok (.iadd, 1) := by decide +kernel
theorem dL_sign_107 : decode cL_sign 107 = .ok (.istore 10, 2) := by decide +kernel
theorem dL_sign_109 : decode cL_sign 109 = .ok (.iload_n 0, 1) := by decide +kernel
theorem dL_sign_110 : decode cL_sign 110 = .ok (.iload 7, 2) := by decide +kernel
theorem dL_sign_112 : decode cL_sign 112 = .ok (.aload 4, 2) := by decide +kernel
theorem dL_sign_114 : decode cL_sign 114 = .ok (.aload 5, 2) := by decide +kernel
theorem dL_sign_116 : decode cL_sign 116 = .ok (.invokestatic 41, 3) := by decide +kernel
theorem dL_sign_119 : decode cL_sign 119 = .ok (.ifCond .eq 130, 3) := by decide +kernel
theorem dL_sign_122 : decode cL_sign 122 = .ok (.iload 10, 2) := by decide +kernel
theorem dL_sign_124 : decode cL_sign 124 = .ok (.iload 9, 2) := by decide +kernel
theorem dL_sign_126 : decode cL_sign 126 = .ok (.iload 8, 2) := by decide +kernel
theorem dL_sign_128 : decode cL_sign 128 = .ok (.if_icmp .le 22, 3) := by decide +kernel
theorem dL_sign_131 : decode cL_sign 131 = .ok (.bipush 100, 2) := by decide +kernel
theorem dL_sign_133 : decode cL_sign 133 = .ok (.iload 9, 2) := by decide +kernel
theorem dL_sign_135 : decode cL_sign 135 = .ok (.iload 8, 2) := by decide +kernel
theorem dL_sign_137 : decode cL_sign 137 = .ok (.isub, 1) := by decide +kernel
theorem dL_sign_138 : decode cL_sign 138 = .ok (.imul, 1) := by decide +kernel
theorem dL_sign_139 : decode cL_sign 139 = .ok (.iconst 5, 1) := by decide +kernel
theorem dL_sign_140 : decode cL_sign 140 = .ok (.iload 8, 2) := by decide +kernel
theorem dL_sign_142 : decode cL_sign 142 = .ok (.imul, 1) := by decide +kernel
theorem dL_sign_143 : decode cL_sign 143 = .ok (.if_icmp .gt 7, 3) := by decide +kernel
theorem dL_sign_146 : decode cL_sign 146 = .ok (.iconst 2, 1) := by decide +kernel
theorem dL_sign_147 : decode cL_sign 147 = .ok (.goto 4, 3) := by decide +kernel
theorem dL_sign_150 : decode cL_sign 150 = .ok (.iconst 0, 1) := by decide +kernel
theorem dL_sign_151 : decode cL_sign 151 = .ok (.iadd, 1) := by decide +kernel
theorem dL_sign_152 : decode cL_sign 152 = .ok (.istore 10, 2) := by decide +kernel
theorem dL_sign_154 : decode cL_sign 154 = .ok (.iconst 1, 1) := by decide +kernel
theorem dL_sign_155 : decode cL_sign 155 = .ok (.istore 11, 2) := by decide +kernel
theorem dL_sign_157 : decode cL_sign 157 = .ok (.iload_n 0, 1) := by decide +kernel
theorem dL_sign_158 : decode cL_sign 158 = .ok (.iconst 1, 1) := by decide +kernel
theorem dL_sign_159 : decode cL_sign 159 = .ok (.isub, 1) := by decide +kernel
theorem dL_sign_160 : decode cL_sign 160 = .ok (.istore 12, 2) := by decide +kernel
theorem dL_sign_162 : decode cL_sign 162 = .ok (.iload 12, 2) := by decide +kernel
theorem dL_sign_164 : decode cL_sign 164 = .ok (.ifCond .lt 85, 3) := by decide +kernel
theorem dL_sign_167 : decode cL_sign 167 = .ok (.iload 11, 2) := by decide +kernel
theorem dL_sign_169 : decode cL_sign 169 = .ok (.ifCond .eq 80, 3) := by decide +kernel
theorem dL_sign_172 : decode cL_sign 172 = .ok (.aload_n 3, 1) := by decide +kernel
theorem dL_sign_173 : decode cL_sign 173 = .ok (.iconst 4, 1) := by decide +kernel
theorem dL_sign_174 : decode cL_sign 174 = .ok (.iload 12, 2) := by decide +kernel
theorem dL_sign_176 : decode cL_sign 176 = .ok (.imul, 1) := by decide +kernel
theorem dL_sign_177 : decode cL_sign 177 = .ok (.iaload, 1) := by decide +kernel
theorem dL_sign_178 : decode cL_sign 178 = .ok (.iconst 1, 1) := by decide +kernel
theorem dL_sign_179 : decode cL_sign 179 = .ok (.if_icmp .ne 29, 3) := by decide +kernel
theorem dL_sign_182 : decode cL_sign 182 = .ok (.iload 12, 2) := by decide +kernel
theorem dL_sign_184 : decode cL_sign 184 = .ok (.iload_n 1, 1) := by decide +kernel
theorem dL_sign_185 : decode cL_sign 185 = .ok (.aload 4, 2) := by decide +kernel
theorem dL_sign_187 : decode cL_sign 187 = .ok (.aload 5, 2) := by decide +kernel
theorem dL_sign_189 : decode cL_sign 189 = .ok (.invokestatic 41, 3) := by decide +kernel
theorem dL_sign_192 : decode cL_sign 192 = .ok (.ifCond .eq 16, 3) := by decide +kernel
theorem dL_sign_195 : decode cL_sign 195 = .ok (.iload 12, 2) := by decide +kernel
theorem dL_sign_197 : decode cL_sign 197 = .ok (.iload_n 2, 1) := by decide +kernel
theorem dL_sign_198 : decode cL_sign 198 = .ok (.aload 4, 2) := by decide +kernel
theorem dL_sign_200 : decode cL_sign 200 = .ok (.aload 5, 2) := by decide +kernel
theorem dL_sign_202 : decode cL_sign 202 = .ok (.invokestatic 41, 3) := by decide +kernel
theorem dL_sign_205 : decode cL_sign 205 = .ok (.ifCond .ne 7, 3) := by decide +kernel
theorem dL_sign_208 : decode cL_sign 208 = .ok (.iconst 1, 1) := by decide +kernel
theorem dL_sign_209 : decode cL_sign 209 = .ok (.goto 4, 3) := by decide +kernel
theorem dL_sign_212 : decode cL_sign 212 = .ok (.iconst 0, 1) := by decide +kernel
theorem dL_sign_213 : decode cL_sign 213 = .ok (.istore 11, 2) := by decide +kernel
theorem dL_sign_215 : decode cL_sign 215 = .ok (.iload 10, 2) := by decide +kernel
theorem dL_sign_217 : decode cL_sign 217 = .ok (.iload 11, 2) := by decide +kernel
theorem dL_sign_219 : decode cL_sign 219 = .ok (.ifCond .ne 20, 3) := by decide +kernel
theorem dL_sign_222 : decode cL_sign 222 = .ok (.aload_n 3, 1) := by decide +kernel
theorem dL_sign_223 : decode cL_sign 223 = .ok (.iconst 4, 1) := by decide +kernel
theorem dL_sign_224 : decode cL_sign 224 = .ok (.iload 12, 2) := by decide +kernel
theorem dL_sign_226 : decode cL_sign 226 = .ok (.imul, 1) := by decide +kernel
theorem dL_sign_227 : decode cL_sign 227 = .ok (.iconst 1, 1) := by decide +kernel
theorem dL_sign_228 : decode cL_sign 228 = .ok (.iadd, 1) := by decide +kernel
theorem dL_sign_229 : decode cL_sign 229 = .ok (.iaload, 1) := by decide +kernel
theorem dL_sign_230 : decode cL_sign 230 = .ok (.iload 7, 2) := by decide +kernel
theorem dL_sign_232 : decode cL_sign 232 = .ok (.if_icmp .ne 7, 3) := by decide +kernel
theorem dL_sign_235 : decode cL_sign 235 = .ok (.iconst 4, 1) := by decide +kernel
theorem dL_sign_236 : decode cL_sign 236 = .ok (.goto 4, 3) := by decide +kernel
theorem dL_sign_239 : decode cL_sign 239 = .ok (.iconst 0, 1) := by decide +kernel
theorem dL_sign_240 : decode cL_sign 240 = .ok (.iadd, 1) := by decide +kernel
theorem dL_sign_241 : decode cL_sign 241 = .ok (.istore 10, 2) := by decide +kernel
theorem dL_sign_243 : decode cL_sign 243 = .ok (.iinc 12 (-1), 3) := by decide +kernel
theorem dL_sign_246 : decode cL_sign 246 = .ok (.goto (-84), 3) := by decide +kernel
theorem dL_sign_249 : decode cL_sign 249 = .ok (.iload 10, 2) := by decide +kernel
theorem dL_sign_251 : decode cL_sign 251 = .ok (.ireturn, 1) := by decide +kernel
set_option maxRecDepth 20000 in
theorem ggL_suspicion_L_sign : GoodIn wsL_suspicion wsL_sign := goodIn_r _ [4, 5, 6, 3, 7] (by decide +kernel) (by decide +kernel)
set_option maxRecDepth 20000 in
theorem gL_suspicion_L_sign : GoodIn wsL_suspicion (va_wsS RL 47 yL_sign wsL_sign) := goodIn_app (goodIn_of _ (by decide +kernel)) ggL_suspicion_L_sign
theorem dL_suspicion_0 : decode cL_suspicion 0 = .ok (.iconst 0, 1) := by decide +kernel
theorem dL_suspicion_1 : decode cL_suspicion 1 = .ok (.istore 6, 2) := by decide +kernel
theorem dL_suspicion_3 : decode cL_suspicion 3 = .ok (.iconst 0, 1) := by decide +kernel
theorem dL_suspicion_4 : decode cL_suspicion 4 = .ok (.istore 7, 2) := by decide +kernel
theorem dL_suspicion_6 : decode cL_suspicion 6 = .ok (.iload 7, 2) := by decide +kernel
theorem dL_suspicion_8 : decode cL_suspicion 8 = .ok (.aload_n 2, 1) := by decide +kernel
theorem dL_suspicion_9 : decode cL_suspicion 9 = .ok (.iconst 0, 1) := by decide +kernel
theorem dL_suspicion_10 : decode cL_suspicion 10 = .ok (.iaload, 1) := by decide +kernel
theorem dL_suspicion_11 : decode cL_suspicion 11 = .ok (.if_icmp .ge 26, 3) := by decide +kernel
theorem dL_suspicion_14 : decode cL_suspicion 14 = .ok (.iload 6, 2) := by decide +kernel
theorem dL_suspicion_16 : decode cL_suspicion 16 = .ok (.iload 7, 2) := by decide +kernel
theorem dL_suspicion_18 : decode cL_suspicion 18 = .ok (.iload_n 0, 1) := by decide +kernel
theorem dL_suspicion_19 : decode cL_suspicion 19 = .ok (.iload_n 1, 1) := by decide +kernel
theorem dL_suspicion_20 : decode cL_suspicion 20 = .ok (.aload_n 3, 1) := by decide +kernel
theorem dL_suspicion_21 : decode cL_suspicion 21 = .ok (.aload 4, 2) := by decide +kernel
theorem dL_suspicion_23 : decode cL_suspicion 23 = .ok (.aload 5, 2) := by decide +kernel
theorem dL_suspicion_25 : decode cL_suspicion 25 = .ok (.invokestatic 47, 3) := by decide +kernel
theorem dL_suspicion_28 : decode cL_suspicion 28 = .ok (.iadd, 1) := by decide +kernel
theorem dL_suspicion_29 : decode cL_suspicion 29 = .ok (.istore 6, 2) := by decide +kernel
theorem dL_suspicion_31 : decode cL_suspicion 31 = .ok (.iinc 7 1, 3) := by decide +kernel
theorem dL_suspicion_34 : decode cL_suspicion 34 = .ok (.goto (-28), 3) := by decide +kernel
theorem dL_suspicion_37 : decode cL_suspicion 37 = .ok (.iload 6, 2) := by decide +kernel
theorem dL_suspicion_39 : decode cL_suspicion 39 = .ok (.ireturn, 1) := by decide +kernel
theorem dL_turnover_0 : decode cL_turnover 0 = .ok (.iconst 0, 1) := by decide +kernel
theorem dL_turnover_1 : decode cL_turnover 1 = .ok (.istore 4, 2) := by decide +kernel
theorem dL_turnover_3 : decode cL_turnover 3 = .ok (.iconst 0, 1) := by decide +kernel
theorem dL_turnover_4 : decode cL_turnover 4 = .ok (.istore 5, 2) := by decide +kernel
theorem dL_turnover_6 : decode cL_turnover 6 = .ok (.iload 5, 2) := by decide +kernel
theorem dL_turnover_8 : decode cL_turnover 8 = .ok (.aload_n 1, 1) := by decide +kernel
theorem dL_turnover_9 : decode cL_turnover 9 = .ok (.iconst 0, 1) := by decide +kernel
theorem dL_turnover_10 : decode cL_turnover 10 = .ok (.iaload, 1) := by decide +kernel
theorem dL_turnover_11 : decode cL_turnover 11 = .ok (.if_icmp .ge 121, 3) := by decide +kernel
theorem dL_turnover_14 : decode cL_turnover 14 = .ok (.aload_n 2, 1) := by decide +kernel
theorem dL_turnover_15 : decode cL_turnover 15 = .ok (.iconst 4, 1) := by decide +kernel
theorem dL_turnover_16 : decode cL_turnover 16 = .ok (.iload 5, 2) := by decide +kernel
theorem dL_turnover_18 : decode cL_turnover 18 = .ok (.imul, 1) := by decide +kernel
theorem dL_turnover_19 : decode cL_turnover 19 = .ok (.iaload, 1) := by decide +kernel
theorem dL_turnover_20 : decode cL_turnover 20 = .ok (.iconst 1, 1) := by decide +kernel
theorem dL_turnover_21 : decode cL_turnover 21 = .ok (.if_icmp .ne 19, 3) := by decide +kernel
theorem dL_turnover_24 : decode cL_turnover 24 = .ok (.aload_n 2, 1) := by decide +kernel
theorem dL_turnover_25 : decode cL_turnover 25 = .ok (.iconst 4, 1) := by decide +kernel
theorem dL_turnover_26 : decode cL_turnover 26 = .ok (.iload 5, 2) := by decide +kernel
theorem dL_turnover_28 : decode cL_turnover 28 = .ok (.imul, 1) := by decide +kernel
theorem dL_turnover_29 : decode cL_turnover 29 = .ok (.iconst 1, 1) := by decide +kernel
theorem dL_turnover_30 : decode cL_turnover 30 = .ok (.iadd, 1) := by decide +kernel
theorem dL_turnover_31 : decode cL_turnover 31 = .ok (.iaload, 1) := by decide +kernel
theorem dL_turnover_32 : decode cL_turnover 32 = .ok (.iload_n 0, 1) := by decide +kernel
theorem dL_turnover_33 : decode cL_turnover 33 = .ok (.if_icmp .ne 7, 3) := by decide +kernel
theorem dL_turnover_36 : decode cL_turnover 36 = .ok (.iconst 1, 1) := by decide +kernel
theorem dL_turnover_37 : decode cL_turnover 37 = .ok (.goto 4, 3) := by decide +kernel
theorem dL_turnover_40 : decode cL_turnover 40 = .ok (.iconst 0, 1) := by decide +kernel
theorem dL_turnover_41 : decode cL_turnover 41 = .ok (.istore 6, 2) := by decide +kernel
theorem dL_turnover_43 : decode cL_turnover 43 = .ok (.iload 4, 2) := by decide +kernel
theorem dL_turnover_45 : decode cL_turnover 45 = .ok (.iload 6, 2) := by decide +kernel
theorem dL_turnover_47 : decode cL_turnover 47 = .ok (.ifCond .eq 14, 3) := by decide +kernel
theorem dL_turnover_50 : decode cL_turnover 50 = .ok (.aload_n 3, 1) := by decide +kernel
theorem dL_turnover_51 : decode cL_turnover 51 = .ok (.iconst 4, 1) := by decide +kernel
theorem dL_turnover_52 : decode cL_turnover 52 = .ok (.iload 5, 2) := by decide +kernel
theorem dL_turnover_54 : decode cL_turnover 54 = .ok (.imul, 1) := by decide +kernel
theorem dL_turnover_55 : decode cL_turnover 55 = .ok (.iload_n 0, 1) := by decide +kernel
theorem dL_turnover_56 : decode cL_turnover 56 = .ok (.iadd, 1) := by decide +kernel
theorem dL_turnover_57 : decode cL_turnover 57 = .ok (.iaload, 1) := by decide +kernel
theorem dL_turnover_58 : decode cL_turnover 58 = .ok (.goto 4, 3) := by decide +kernel
theorem dL_turnover_61 : decode cL_turnover 61 = .ok (.iconst 0, 1) := by decide +kernel
theorem dL_turnover_62 : decode cL_turnover 62 = .ok (.iadd, 1) := by decide +kernel
theorem dL_turnover_63 : decode cL_turnover 63 = .ok (.istore 4, 2) := by decide +kernel
theorem dL_turnover_65 : decode cL_turnover 65 = .ok (.iload 4, 2) := by decide +kernel
theorem dL_turnover_67 : decode cL_turnover 67 = .ok (.iload 6, 2) := by decide +kernel
theorem dL_turnover_69 : decode cL_turnover 69 = .ok (.ifCond .eq 14, 3) := by decide +kernel
theorem dL_turnover_72 : decode cL_turnover 72 = .ok (.aload_n 2, 1) := by decide +kernel
theorem dL_turnover_73 : decode cL_turnover 73 = .ok (.iconst 4, 1) := by decide +kernel
theorem dL_turnover_74 : decode cL_turnover 74 = .ok (.iload 5, 2) := by decide +kernel
theorem dL_turnover_76 : decode cL_turnover 76 = .ok (.imul, 1) := by decide +kernel
theorem dL_turnover_77 : decode cL_turnover 77 = .ok (.iconst 3, 1) := by decide +kernel
theorem dL_turnover_78 : decode cL_turnover 78 = .ok (.iadd, 1) := by decide +kernel
theorem dL_turnover_79 : decode cL_turnover 79 = .ok (.iaload, 1) := by decide +kernel
theorem dL_turnover_80 : decode cL_turnover 80 = .ok (.goto 4, 3) := by decide +kernel
theorem dL_turnover_83 : decode cL_turnover 83 = .ok (.iconst 0, 1) := by decide +kernel
theorem dL_turnover_84 : decode cL_turnover 84 = .ok (.isub, 1) := by decide +kernel
theorem dL_turnover_85 : decode cL_turnover 85 = .ok (.istore 4, 2) := by decide +kernel
theorem dL_turnover_87 : decode cL_turnover 87 = .ok (.iload 4, 2) := by decide +kernel
theorem dL_turnover_89 : decode cL_turnover 89 = .ok (.aload_n 2, 1) := by decide +kernel
theorem dL_turnover_90 : decode cL_turnover 90 = .ok (.iconst 4, 1) := by decide +kernel
theorem dL_turnover_91 : decode cL_turnover 91 = .ok (.iload 5, 2) := by decide +kernel
theorem dL_turnover_93 : decode cL_turnover 93 = .ok (.imul, 1) := by decide +kernel
theorem dL_turnover_94 : decode cL_turnover 94 = .ok (.iaload, 1) := by decide +kernel
theorem dL_turnover_95 : decode cL_turnover 95 = .ok (.iconst 1, 1) := by decide +kernel
theorem dL_turnover_96 : decode cL_turnover 96 = .ok (.if_icmp .ne 26, 3) := by decide +kernel
theorem dL_turnover_99 : decode cL_turnover 99 = .ok (.aload_n 2, 1) := by decide +kernel
theorem dL_turnover_100 : decode cL_turnover 100 = .ok (.iconst 4, 1) := by decide +kernel
theorem dL_turnover_101 : decode cL_turnover 101 = .ok (.iload 5, 2) := by decide +kernel
theorem dL_turnover_103 : decode cL_turnover 103 = .ok (.imul, 1) := by decide +kernel
theorem dL_turnover_104 : decode cL_turnover 104 = .ok (.iconst 2, 1) := by decide +kernel
theorem dL_turnover_105 : decode cL_turnover 105 = .ok (.iadd, 1) := by decide +kernel
theorem dL_turnover_106 : decode cL_turnover 106 = .ok (.iaload, 1) := by decide +kernel
theorem dL_turnover_107 : decode cL_turnover 107 = .ok (.iload_n 0, 1) := by decide +kernel
theorem dL_turnover_108 : decode cL_turnover 108 = .ok (.if_icmp .ne 14, 3) := by decide +kernel
theorem dL_turnover_111 : decode cL_turnover 111 = .ok (.aload_n 2, 1) := by decide +kernel
theorem dL_turnover_112 : decode cL_turnover 112 = .ok (.iconst 4, 1) := by decide +kernel
theorem dL_turnover_113 : decode cL_turnover 113 = .ok (.iload 5, 2) := by decide +kernel
theorem dL_turnover_115 : decode cL_turnover 115 = .ok (.imul, 1) := by decide +kernel
theorem dL_turnover_116 : decode cL_turnover 116 = .ok (.iconst 3, 1) := by decide +kernel
theorem dL_turnover_117 : decode cL_turnover 117 = .ok (.iadd, 1) := by decide +kernel
theorem dL_turnover_118 : decode cL_turnover 118 = .ok (.iaload, 1) := by decide +kernel
theorem dL_turnover_119 : decode cL_turnover 119 = .ok (.goto 4, 3) := by decide +kernel
theorem dL_turnover_122 : decode cL_turnover 122 = .ok (.iconst 0, 1) := by decide +kernel
theorem dL_turnover_123 : decode cL_turnover 123 = .ok (.iadd, 1) := by decide +kernel
theorem dL_turnover_124 : decode cL_turnover 124 = .ok (.istore 4, 2) := by decide +kernel
theorem dL_turnover_126 : decode cL_turnover 126 = .ok (.iinc 5 1, 3) := by decide +kernel
theorem dL_turnover_129 : decode cL_turnover 129 = .ok (.goto (-123), 3) := by decide +kernel
theorem dL_turnover_132 : decode cL_turnover 132 = .ok (.iload 4, 2) := by decide +kernel
theorem dL_turnover_134 : decode cL_turnover 134 = .ok (.ireturn, 1) := by decide +kernel
theorem dL_bits_0 : decode cL_bits 0 = .ok (.iconst 0, 1) := by decide +kernel
theorem dL_bits_1 : decode cL_bits 1 = .ok (.istore_n 1, 1) := by decide +kernel
theorem dL_bits_2 : decode cL_bits 2 = .ok (.iconst 0, 1) := by decide +kernel
theorem dL_bits_3 : decode cL_bits 3 = .ok (.istore_n 2, 1) := by decide +kernel
theorem dL_bits_4 : decode cL_bits 4 = .ok (.iload_n 2, 1) := by decide +kernel
theorem dL_bits_5 : decode cL_bits 5 = .ok (.bipush 8, 2) := by decide +kernel
theorem dL_bits_7 : decode cL_bits 7 = .ok (.if_icmp .ge 17, 3) := by decide +kernel
theorem dL_bits_10 : decode cL_bits 10 = .ok (.iload_n 1, 1) := by decide +kernel
theorem dL_bits_11 : decode cL_bits 11 = .ok (.iload_n 0, 1) := by decide +kernel
theorem dL_bits_12 : decode cL_bits 12 = .ok (.iload_n 2, 1) := by decide +kernel
theorem dL_bits_13 : decode cL_bits 13 = .ok (.ishr, 1) := by decide +kernel
theorem dL_bits_14 : decode cL_bits 14 = .ok (.iconst 1, 1) := by decide +kernel
theorem dL_bits_15 : decode cL_bits 15 = .ok (.iand, 1) := by decide +kernel
theorem dL_bits_16 : decode cL_bits 16 = .ok (.iadd, 1) := by decide +kernel
theorem dL_bits_17 : decode cL_bits 17 = .ok (.istore_n 1, 1) := by decide +kernel
theorem dL_bits_18 : decode cL_bits 18 = .ok (.iinc 2 1, 3) := by decide +kernel
theorem dL_bits_21 : decode cL_bits 21 = .ok (.goto (-17), 3) := by decide +kernel
theorem dL_bits_24 : decode cL_bits 24 = .ok (.iload_n 1, 1) := by decide +kernel
theorem dL_bits_25 : decode cL_bits 25 = .ok (.ireturn, 1) := by decide +kernel
set_option maxRecDepth 20000 in
theorem ggL_fine_L_turnover : GoodIn wsL_fine wsL_turnover := goodIn_r _ [4] (by decide +kernel) (by decide +kernel)
set_option maxRecDepth 20000 in
theorem gL_fine_L_turnover : GoodIn wsL_fine (va_wsS RL 51 yL_turnover wsL_turnover) := goodIn_app (goodIn_of _ (by decide +kernel)) ggL_fine_L_turnover
set_option maxRecDepth 20000 in
theorem ggL_fine_L_bits : GoodIn wsL_fine wsL_bits := goodIn_r _ [7] (by decide +kernel) (by decide +kernel)
set_option maxRecDepth 20000 in
theorem gL_fine_L_bits : GoodIn wsL_fine (va_wsS RL 55 yL_bits wsL_bits) := goodIn_app (goodIn_of _ (by decide +kernel)) ggL_fine_L_bits
theorem dL_fine_0 : decode cL_fine 0 = .ok (.aload 5, 2) := by decide +kernel
theorem dL_fine_2 : decode cL_fine 2 = .ok (.bipush 8, 2) := by decide +kernel
theorem dL_fine_4 : decode cL_fine 4 = .ok (.iload_n 0, 1) := by decide +kernel
theorem dL_fine_5 : decode cL_fine 5 = .ok (.imul, 1) := by decide +kernel
theorem dL_fine_6 : decode cL_fine 6 = .ok (.iload_n 1, 1) := by decide +kernel
theorem dL_fine_7 : decode cL_fine 7 = .ok (.iadd, 1) := by decide +kernel
theorem dL_fine_8 : decode cL_fine 8 = .ok (.iaload, 1) := by decide +kernel
theorem dL_fine_9 : decode cL_fine 9 = .ok (.istore 6, 2) := by decide +kernel
theorem dL_fine_11 : decode cL_fine 11 = .ok (.aload 5, 2) := by decide +kernel
theorem dL_fine_13 : decode cL_fine 13 = .ok (.bipush 8, 2) := by decide +kernel
theorem dL_fine_15 : decode cL_fine 15 = .ok (.iload_n 0, 1) := by decide +kernel
theorem dL_fine_16 : decode cL_fine 16 = .ok (.imul, 1) := by decide +kernel
theorem dL_fine_17 : decode cL_fine 17 = .ok (.iconst 5, 1) := by decide +kernel
theorem dL_fine_18 : decode cL_fine 18 = .ok (.iadd, 1) := by decide +kernel
theorem dL_fine_19 : decode cL_fine 19 = .ok (.iload_n 1, 1) := by decide +kernel
theorem dL_fine_20 : decode cL_fine 20 = .ok (.iadd, 1) := by decide +kernel
theorem dL_fine_21 : decode cL_fine 21 = .ok (.iaload, 1) := by decide +kernel
theorem dL_fine_22 : decode cL_fine 22 = .ok (.istore 7, 2) := by decide +kernel
theorem dL_fine_24 : decode cL_fine 24 = .ok (.iload 6, 2) := by decide +kernel
theorem dL_fine_26 : decode cL_fine 26 = .ok (.aload_n 2, 1) := by decide +kernel
theorem dL_fine_27 : decode cL_fine 27 = .ok (.aload_n 3, 1) := by decide +kernel
theorem dL_fine_28 : decode cL_fine 28 = .ok (.aload 4, 2) := by decide +kernel
theorem dL_fine_30 : decode cL_fine 30 = .ok (.invokestatic 51, 3) := by decide +kernel
theorem dL_fine_33 : decode cL_fine 33 = .ok (.bipush 10, 2) := by decide +kernel
theorem dL_fine_35 : decode cL_fine 35 = .ok (.idiv, 1) := by decide +kernel
theorem dL_fine_36 : decode cL_fine 36 = .ok (.istore 8, 2) := by decide +kernel
theorem dL_fine_38 : decode cL_fine 38 = .ok (.aload 5, 2) := by decide +kernel
theorem dL_fine_40 : decode cL_fine 40 = .ok (.bipush 8, 2) := by decide +kernel
theorem dL_fine_42 : decode cL_fine 42 = .ok (.iload_n 0, 1) := by decide +kernel
