theorem dX2_countOf_12 : decode cX2_countOf 12 = .ok (.iconst 0, 1) := by decide +kernel
theorem dX2_countOf_13 : decode cX2_countOf 13 = .ok (.ireturn, 1) := by decide +kernel
theorem dX2_countOf_14 : decode cX2_countOf 14 = .ok (.aload 4, 2) := by decide +kernel
theorem dX2_countOf_16 : decode cX2_countOf 16 = .ok (.invokevirtual 101, 3) := by decide +kernel
theorem dX2_countOf_19 : decode cX2_countOf 19 = .ok (.istore 5, 2) := by decide +kernel
theorem dX2_countOf_21 : decode cX2_countOf 21 = .ok (.iload 5, 2) := by decide +kernel
theorem dX2_countOf_23 : decode cX2_countOf 23 = .ok (.iload_n 2, 1) := by decide +kernel
theorem dX2_countOf_24 : decode cX2_countOf 24 = .ok (.if_icmp .eq 11, 3) := by decide +kernel
theorem dX2_countOf_27 : decode cX2_countOf 27 = .ok (.iload 5, 2) := by decide +kernel
theorem dX2_countOf_29 : decode cX2_countOf 29 = .ok (.iload_n 3, 1) := by decide +kernel
theorem dX2_countOf_30 : decode cX2_countOf 30 = .ok (.if_icmp .eq 5, 3) := by decide +kernel
theorem dX2_countOf_33 : decode cX2_countOf 33 = .ok (.iconst 0, 1) := by decide +kernel
theorem dX2_countOf_34 : decode cX2_countOf 34 = .ok (.ireturn, 1) := by decide +kernel
theorem dX2_countOf_35 : decode cX2_countOf 35 = .ok (.iload 5, 2) := by decide +kernel
theorem dX2_countOf_37 : decode cX2_countOf 37 = .ok (.iload_n 2, 1) := by decide +kernel
theorem dX2_countOf_38 : decode cX2_countOf 38 = .ok (.if_icmp .ne 7, 3) := by decide +kernel
theorem dX2_countOf_41 : decode cX2_countOf 41 = .ok (.iload_n 3, 1) := by decide +kernel
theorem dX2_countOf_42 : decode cX2_countOf 42 = .ok (.goto 4, 3) := by decide +kernel
theorem dX2_countOf_45 : decode cX2_countOf 45 = .ok (.iload_n 2, 1) := by decide +kernel
theorem dX2_countOf_46 : decode cX2_countOf 46 = .ok (.istore 6, 2) := by decide +kernel
theorem dX2_countOf_48 : decode cX2_countOf 48 = .ok (.aload 4, 2) := by decide +kernel
theorem dX2_countOf_50 : decode cX2_countOf 50 = .ok (.iload 6, 2) := by decide +kernel
theorem dX2_countOf_52 : decode cX2_countOf 52 = .ok (.invokevirtual 195, 3) := by decide +kernel
theorem dX2_countOf_55 : decode cX2_countOf 55 = .ok (.istore 7, 2) := by decide +kernel
theorem dX2_countOf_57 : decode cX2_countOf 57 = .ok (.aload 4, 2) := by decide +kernel
theorem dX2_countOf_59 : decode cX2_countOf 59 = .ok (.iload 6, 2) := by decide +kernel
theorem dX2_countOf_61 : decode cX2_countOf 61 = .ok (.invokevirtual 83, 3) := by decide +kernel
theorem dX2_countOf_64 : decode cX2_countOf 64 = .ok (.ifCond .eq 20, 3) := by decide +kernel
theorem dX2_countOf_67 : decode cX2_countOf 67 = .ok (.aload_n 0, 1) := by decide +kernel
theorem dX2_countOf_68 : decode cX2_countOf 68 = .ok (.iload_n 1, 1) := by decide +kernel
theorem dX2_countOf_69 : decode cX2_countOf 69 = .ok (.iload 5, 2) := by decide +kernel
theorem dX2_countOf_71 : decode cX2_countOf 71 = .ok (.iload 6, 2) := by decide +kernel
theorem dX2_countOf_73 : decode cX2_countOf 73 = .ok (.invokevirtual 198, 3) := by decide +kernel
theorem dX2_countOf_76 : decode cX2_countOf 76 = .ok (.iload 6, 2) := by decide +kernel
theorem dX2_countOf_78 : decode cX2_countOf 78 = .ok (.if_icmp .ne 6, 3) := by decide +kernel
theorem dX2_countOf_81 : decode cX2_countOf 81 = .ok (.iinc 7 4, 3) := by decide +kernel
theorem dX2_countOf_84 : decode cX2_countOf 84 = .ok (.iload 7, 2) := by decide +kernel
theorem dX2_countOf_86 : decode cX2_countOf 86 = .ok (.ireturn, 1) := by decide +kernel
set_option maxRecDepth 20000 in
theorem ggX2_lastWinnerBefore_X2_tenderAt : GoodIn wsX2_lastWinnerBefore wsX2_tenderAt := goodIn_r _ [5, 6, 25, 26, 27, 28, 29, 30] (by decide +kernel) (by decide +kernel)
set_option maxRecDepth 20000 in
theorem gX2_lastWinnerBefore_X2_tenderAt : GoodIn wsX2_lastWinnerBefore (wsV RX2 43 RX2 yX2_tenderAt wsX2_tenderAt) := goodIn_app (goodIn_of _ (by decide +kernel)) ggX2_lastWinnerBefore_X2_tenderAt
set_option maxRecDepth 20000 in
theorem ggX2_lastWinnerBefore_X1_isAwarded : GoodIn wsX2_lastWinnerBefore wsX1_isAwarded := goodIn_r _ [11, 12, 31, 32, 33, 34, 35, 36] (by decide +kernel) (by decide +kernel)
set_option maxRecDepth 20000 in
theorem gX2_lastWinnerBefore_X1_isAwarded : GoodIn wsX2_lastWinnerBefore (wsV RX2 104 RX1 yX1_isAwarded wsX1_isAwarded) := goodIn_app (goodIn_of _ (by decide +kernel)) ggX2_lastWinnerBefore_X1_isAwarded
set_option maxRecDepth 20000 in
theorem ggX2_lastWinnerBefore_X1_isStanding : GoodIn wsX2_lastWinnerBefore wsX1_isStanding := goodIn_r _ [16, 17, 18, 19, 4, 20, 31, 32, 33, 34, 35, 36] (by decide +kernel) (by decide +kernel)
set_option maxRecDepth 20000 in
theorem gX2_lastWinnerBefore_X1_isStanding : GoodIn wsX2_lastWinnerBefore (wsV RX2 83 RX1 yX1_isStanding wsX1_isStanding) := goodIn_app (goodIn_of _ (by decide +kernel)) ggX2_lastWinnerBefore_X1_isStanding
set_option maxRecDepth 20000 in
theorem ggX2_lastWinnerBefore_X1_winner : GoodIn wsX2_lastWinnerBefore wsX1_winner := goodIn_r _ [24, 12, 31, 32, 33, 34, 35, 36] (by decide +kernel) (by decide +kernel)
set_option maxRecDepth 20000 in
theorem gX2_lastWinnerBefore_X1_winner : GoodIn wsX2_lastWinnerBefore (wsV RX2 101 RX1 yX1_winner wsX1_winner) := goodIn_app (goodIn_of _ (by decide +kernel)) ggX2_lastWinnerBefore_X1_winner
theorem dX2_lastWinnerBefore_0 : decode cX2_lastWinnerBefore 0 = .ok (.iload_n 1, 1) := by decide +kernel
theorem dX2_lastWinnerBefore_1 : decode cX2_lastWinnerBefore 1 = .ok (.iconst 1, 1) := by decide +kernel
theorem dX2_lastWinnerBefore_2 : decode cX2_lastWinnerBefore 2 = .ok (.isub, 1) := by decide +kernel
theorem dX2_lastWinnerBefore_3 : decode cX2_lastWinnerBefore 3 = .ok (.istore 4, 2) := by decide +kernel
theorem dX2_lastWinnerBefore_5 : decode cX2_lastWinnerBefore 5 = .ok (.iload 4, 2) := by decide +kernel
theorem dX2_lastWinnerBefore_7 : decode cX2_lastWinnerBefore 7 = .ok (.ifCond .lt 54, 3) := by decide +kernel
theorem dX2_lastWinnerBefore_10 : decode cX2_lastWinnerBefore 10 = .ok (.aload_n 0, 1) := by decide +kernel
theorem dX2_lastWinnerBefore_11 : decode cX2_lastWinnerBefore 11 = .ok (.iload 4, 2) := by decide +kernel
theorem dX2_lastWinnerBefore_13 : decode cX2_lastWinnerBefore 13 = .ok (.invokevirtual 43, 3) := by decide +kernel
theorem dX2_lastWinnerBefore_16 : decode cX2_lastWinnerBefore 16 = .ok (.astore 5, 2) := by decide +kernel
theorem dX2_lastWinnerBefore_18 : decode cX2_lastWinnerBefore 18 = .ok (.aload 5, 2) := by decide +kernel
theorem dX2_lastWinnerBefore_20 : decode cX2_lastWinnerBefore 20 = .ok (.ifnull 35, 3) := by decide +kernel
theorem dX2_lastWinnerBefore_23 : decode cX2_lastWinnerBefore 23 = .ok (.aload 5, 2) := by decide +kernel
theorem dX2_lastWinnerBefore_25 : decode cX2_lastWinnerBefore 25 = .ok (.invokevirtual 104, 3) := by decide +kernel
theorem dX2_lastWinnerBefore_28 : decode cX2_lastWinnerBefore 28 = .ok (.ifCond .eq 27, 3) := by decide +kernel
theorem dX2_lastWinnerBefore_31 : decode cX2_lastWinnerBefore 31 = .ok (.aload 5, 2) := by decide +kernel
theorem dX2_lastWinnerBefore_33 : decode cX2_lastWinnerBefore 33 = .ok (.iload_n 2, 1) := by decide +kernel
theorem dX2_lastWinnerBefore_34 : decode cX2_lastWinnerBefore 34 = .ok (.invokevirtual 83, 3) := by decide +kernel
theorem dX2_lastWinnerBefore_37 : decode cX2_lastWinnerBefore 37 = .ok (.ifCond .eq 18, 3) := by decide +kernel
theorem dX2_lastWinnerBefore_40 : decode cX2_lastWinnerBefore 40 = .ok (.aload 5, 2) := by decide +kernel
theorem dX2_lastWinnerBefore_42 : decode cX2_lastWinnerBefore 42 = .ok (.iload_n 3, 1) := by decide +kernel
theorem dX2_lastWinnerBefore_43 : decode cX2_lastWinnerBefore 43 = .ok (.invokevirtual 83, 3) := by decide +kernel
theorem dX2_lastWinnerBefore_46 : decode cX2_lastWinnerBefore 46 = .ok (.ifCond .eq 9, 3) := by decide +kernel
theorem dX2_lastWinnerBefore_49 : decode cX2_lastWinnerBefore 49 = .ok (.aload 5, 2) := by decide +kernel
theorem dX2_lastWinnerBefore_51 : decode cX2_lastWinnerBefore 51 = .ok (.invokevirtual 101, 3) := by decide +kernel
theorem dX2_lastWinnerBefore_54 : decode cX2_lastWinnerBefore 54 = .ok (.ireturn, 1) := by decide +kernel
theorem dX2_lastWinnerBefore_55 : decode cX2_lastWinnerBefore 55 = .ok (.iinc 4 (-1), 3) := by decide +kernel
theorem dX2_lastWinnerBefore_58 : decode cX2_lastWinnerBefore 58 = .ok (.goto (-53), 3) := by decide +kernel
theorem dX2_lastWinnerBefore_61 : decode cX2_lastWinnerBefore 61 = .ok (.iconst (-1), 1) := by decide +kernel
theorem dX2_lastWinnerBefore_62 : decode cX2_lastWinnerBefore 62 = .ok (.ireturn, 1) := by decide +kernel
set_option maxRecDepth 20000 in
theorem ggX2_settle_X2_isBidder : GoodIn wsX2_settle wsX2_isBidder := goodIn_r _ [9] (by decide +kernel) (by decide +kernel)
set_option maxRecDepth 20000 in
theorem gX2_settle_X2_isBidder : GoodIn wsX2_settle (va_wsS RX2 52 yX2_isBidder wsX2_isBidder) := goodIn_app (goodIn_of _ (by decide +kernel)) ggX2_settle_X2_isBidder
set_option maxRecDepth 20000 in
theorem ggX2_settle_X2_turnoverOf : GoodIn wsX2_settle wsX2_turnoverOf := goodIn_r _ [13, 14, 15, 16, 17, 18, 19, 20, 21, 22, 23, 24, 25, 26, 27, 7, 8, 9, 41, 42, 43, 44, 45, 46, 47, 48, 49, 50, 51, 52] (by decide +kernel) (by decide +kernel)
set_option maxRecDepth 20000 in
theorem gX2_settle_X2_turnoverOf : GoodIn wsX2_settle (wsV RX2 117 RX2 yX2_turnoverOf wsX2_turnoverOf) := goodIn_app (goodIn_of _ (by decide +kernel)) ggX2_settle_X2_turnoverOf
set_option maxRecDepth 20000 in
theorem ggX2_settle_X0_lenientFine : GoodIn wsX2_settle wsX0_lenientFine := goodIn_r _ [32, 33, 34, 35, 7, 8, 9, 53, 54, 55, 56, 57, 58, 59, 60] (by decide +kernel) (by decide +kernel)
set_option maxRecDepth 20000 in
theorem gX2_settle_X0_lenientFine : GoodIn wsX2_settle (wsV RX2 201 RX0 yX0_lenientFine wsX0_lenientFine) := goodIn_app (goodIn_of _ (by decide +kernel)) ggX2_settle_X0_lenientFine
set_option maxRecDepth 20000 in
theorem ggX2_settle_X0_impose : GoodIn wsX2_settle wsX0_impose := goodIn_r _ [39, 40, 7, 8, 9, 53, 54, 55, 56, 57, 58, 59, 60] (by decide +kernel) (by decide +kernel)
set_option maxRecDepth 20000 in
theorem gX2_settle_X0_impose : GoodIn wsX2_settle (wsV RX2 209 RX0 yX0_impose wsX0_impose) := goodIn_app (goodIn_of _ (by decide +kernel)) ggX2_settle_X0_impose
theorem dX2_settle_0 : decode cX2_settle 0 = .ok (.iload_n 2, 1) := by decide +kernel
theorem dX2_settle_1 : decode cX2_settle 1 = .ok (.invokestatic 52, 3) := by decide +kernel
theorem dX2_settle_4 : decode cX2_settle 4 = .ok (.ifCond .ne 5, 3) := by decide +kernel
theorem dX2_settle_7 : decode cX2_settle 7 = .ok (.iconst 0, 1) := by decide +kernel
theorem dX2_settle_8 : decode cX2_settle 8 = .ok (.ireturn, 1) := by decide +kernel
theorem dX2_settle_9 : decode cX2_settle 9 = .ok (.aload_n 1, 1) := by decide +kernel
theorem dX2_settle_10 : decode cX2_settle 10 = .ok (.iload_n 2, 1) := by decide +kernel
theorem dX2_settle_11 : decode cX2_settle 11 = .ok (.aload_n 0, 1) := by decide +kernel
theorem dX2_settle_12 : decode cX2_settle 12 = .ok (.iload_n 2, 1) := by decide +kernel
theorem dX2_settle_13 : decode cX2_settle 13 = .ok (.invokevirtual 117, 3) := by decide +kernel
theorem dX2_settle_16 : decode cX2_settle 16 = .ok (.bipush 10, 2) := by decide +kernel
theorem dX2_settle_18 : decode cX2_settle 18 = .ok (.idiv, 1) := by decide +kernel
theorem dX2_settle_19 : decode cX2_settle 19 = .ok (.invokevirtual 201, 3) := by decide +kernel
theorem dX2_settle_22 : decode cX2_settle 22 = .ok (.istore_n 3, 1) := by decide +kernel
theorem dX2_settle_23 : decode cX2_settle 23 = .ok (.iload_n 3, 1) := by decide +kernel
theorem dX2_settle_24 : decode cX2_settle 24 = .ok (.aload_n 0, 1) := by decide +kernel
theorem dX2_settle_25 : decode cX2_settle 25 = .ok (.getfield 28, 3) := by decide +kernel
theorem dX2_settle_28 : decode cX2_settle 28 = .ok (.iload_n 2, 1) := by decide +kernel
theorem dX2_settle_29 : decode cX2_settle 29 = .ok (.iaload, 1) := by decide +kernel
theorem dX2_settle_30 : decode cX2_settle 30 = .ok (.invokestatic 204, 3) := by decide +kernel
theorem dX2_settle_33 : decode cX2_settle 33 = .ok (.istore 4, 2) := by decide +kernel
theorem dX2_settle_35 : decode cX2_settle 35 = .ok (.aload_n 0, 1) := by decide +kernel
theorem dX2_settle_36 : decode cX2_settle 36 = .ok (.getfield 28, 3) := by decide +kernel
theorem dX2_settle_39 : decode cX2_settle 39 = .ok (.iload_n 2, 1) := by decide +kernel
theorem dX2_settle_40 : decode cX2_settle 40 = .ok (.dup2, 1) := by decide +kernel
theorem dX2_settle_41 : decode cX2_settle 41 = .ok (.iaload, 1) := by decide +kernel
theorem dX2_settle_42 : decode cX2_settle 42 = .ok (.iload 4, 2) := by decide +kernel
theorem dX2_settle_44 : decode cX2_settle 44 = .ok (.isub, 1) := by decide +kernel
theorem dX2_settle_45 : decode cX2_settle 45 = .ok (.iastore, 1) := by decide +kernel
theorem dX2_settle_46 : decode cX2_settle 46 = .ok (.aload_n 1, 1) := by decide +kernel
theorem dX2_settle_47 : decode cX2_settle 47 = .ok (.iload_n 2, 1) := by decide +kernel
theorem dX2_settle_48 : decode cX2_settle 48 = .ok (.iload_n 3, 1) := by decide +kernel
theorem dX2_settle_49 : decode cX2_settle 49 = .ok (.iload 4, 2) := by decide +kernel
theorem dX2_settle_51 : decode cX2_settle 51 = .ok (.isub, 1) := by decide +kernel
theorem dX2_settle_52 : decode cX2_settle 52 = .ok (.invokevirtual 209, 3) := by decide +kernel
theorem dX2_settle_55 : decode cX2_settle 55 = .ok (.iload_n 3, 1) := by decide +kernel
theorem dX2_settle_56 : decode cX2_settle 56 = .ok (.iload 4, 2) := by decide +kernel
theorem dX2_settle_58 : decode cX2_settle 58 = .ok (.isub, 1) := by decide +kernel
theorem dX2_settle_59 : decode cX2_settle 59 = .ok (.ireturn, 1) := by decide +kernel
theorem dX3_init_0 : decode cX3_init 0 = .ok (.aload_n 0, 1) := by decide +kernel
theorem dX3_init_1 : decode cX3_init 1 = .ok (.invokespecial 1, 3) := by decide +kernel
theorem dX3_init_4 : decode cX3_init 4 = .ok (.aload_n 0, 1) := by decide +kernel
theorem dX3_init_5 : decode cX3_init 5 = .ok (.bipush 30, 2) := by decide +kernel
theorem dX3_init_7 : decode cX3_init 7 = .ok (.newarray .int, 2) := by decide +kernel
theorem dX3_init_9 : decode cX3_init 9 = .ok (.putfield 7, 3) := by decide +kernel
theorem dX3_init_12 : decode cX3_init 12 = .ok (.aload_n 0, 1) := by decide +kernel
theorem dX3_init_13 : decode cX3_init 13 = .ok (.bipush 30, 2) := by decide +kernel
theorem dX3_init_15 : decode cX3_init 15 = .ok (.newarray .int, 2) := by decide +kernel
theorem dX3_init_17 : decode cX3_init 17 = .ok (.putfield 13, 3) := by decide +kernel
theorem dX3_init_20 : decode cX3_init 20 = .ok (.aload_n 0, 1) := by decide +kernel
theorem dX3_init_21 : decode cX3_init 21 = .ok (.bipush 30, 2) := by decide +kernel
theorem dX3_init_23 : decode cX3_init 23 = .ok (.newarray .int, 2) := by decide +kernel
theorem dX3_init_25 : decode cX3_init 25 = .ok (.putfield 16, 3) := by decide +kernel
theorem dX3_init_28 : decode cX3_init 28 = .ok (.aload_n 0, 1) := by decide +kernel
theorem dX3_init_29 : decode cX3_init 29 = .ok (.bipush 30, 2) := by decide +kernel
theorem dX3_init_31 : decode cX3_init 31 = .ok (.newarray .int, 2) := by decide +kernel
theorem dX3_init_33 : decode cX3_init 33 = .ok (.putfield 19, 3) := by decide +kernel
theorem dX3_init_36 : decode cX3_init 36 = .ok (.aload_n 0, 1) := by decide +kernel
theorem dX3_init_37 : decode cX3_init 37 = .ok (.sipush 210, 3) := by decide +kernel
theorem dX3_init_40 : decode cX3_init 40 = .ok (.newarray .int, 2) := by decide +kernel
theorem dX3_init_42 : decode cX3_init 42 = .ok (.putfield 22, 3) := by decide +kernel
theorem dX3_init_45 : decode cX3_init 45 = .ok (.aload_n 0, 1) := by decide +kernel
theorem dX3_init_46 : decode cX3_init 46 = .ok (.sipush 210, 3) := by decide +kernel
theorem dX3_init_49 : decode cX3_init 49 = .ok (.newarray .boolean, 2) := by decide +kernel
theorem dX3_init_51 : decode cX3_init 51 = .ok (.putfield 25, 3) := by decide +kernel
theorem dX3_init_54 : decode cX3_init 54 = .ok (.aload_n 0, 1) := by decide +kernel
theorem dX3_init_55 : decode cX3_init 55 = .ok (.bipush 10, 2) := by decide +kernel
theorem dX3_init_57 : decode cX3_init 57 = .ok (.putfield 29, 3) := by decide +kernel
theorem dX3_init_60 : decode cX3_init 60 = .ok (.aload_n 0, 1) := by decide +kernel
theorem dX3_init_61 : decode cX3_init 61 = .ok (.bipush 20, 2) := by decide +kernel
theorem dX3_init_63 : decode cX3_init 63 = .ok (.newarray .int, 2) := by decide +kernel
theorem dX3_init_65 : decode cX3_init 65 = .ok (.putfield 33, 3) := by decide +kernel
theorem dX3_init_68 : decode cX3_init 68 = .ok (.aload_n 0, 1) := by decide +kernel
theorem dX3_init_69 : decode cX3_init 69 = .ok (.bipush 20, 2) := by decide +kernel
theorem dX3_init_71 : decode cX3_init 71 = .ok (.newarray .int, 2) := by decide +kernel
theorem dX3_init_73 : decode cX3_init 73 = .ok (.putfield 36, 3) := by decide +kernel
theorem dX3_init_76 : decode cX3_init 76 = .ok (.aload_n 0, 1) := by decide +kernel
theorem dX3_init_77 : decode cX3_init 77 = .ok (.bipush 20, 2) := by decide +kernel
theorem dX3_init_79 : decode cX3_init 79 = .ok (.newarray .int, 2) := by decide +kernel
theorem dX3_init_81 : decode cX3_init 81 = .ok (.putfield 39, 3) := by decide +kernel
theorem dX3_init_84 : decode cX3_init 84 = .ok (.aload_n 0, 1) := by decide +kernel
theorem dX3_init_85 : decode cX3_init 85 = .ok (.bipush 20, 2) := by decide +kernel
theorem dX3_init_87 : decode cX3_init 87 = .ok (.newarray .int, 2) := by decide +kernel
theorem dX3_init_89 : decode cX3_init 89 = .ok (.putfield 42, 3) := by decide +kernel
theorem dX3_init_92 : decode cX3_init 92 = .ok (.aload_n 0, 1) := by decide +kernel
theorem dX3_init_93 : decode cX3_init 93 = .ok (.bipush 20, 2) := by decide +kernel
theorem dX3_init_95 : decode cX3_init 95 = .ok (.newarray .int, 2) := by decide +kernel
theorem dX3_init_97 : decode cX3_init 97 = .ok (.putfield 45, 3) := by decide +kernel
theorem dX3_init_100 : decode cX3_init 100 = .ok (.aload_n 0, 1) := by decide +kernel
theorem dX3_init_101 : decode cX3_init 101 = .ok (.bipush 40, 2) := by decide +kernel
theorem dX3_init_103 : decode cX3_init 103 = .ok (.newarray .int, 2) := by decide +kernel
theorem dX3_init_105 : decode cX3_init 105 = .ok (.putfield 48, 3) := by decide +kernel
theorem dX3_init_108 : decode cX3_init 108 = .ok (.aload_n 0, 1) := by decide +kernel
theorem dX3_init_109 : decode cX3_init 109 = .ok (.bipush 40, 2) := by decide +kernel
theorem dX3_init_111 : decode cX3_init 111 = .ok (.newarray .int, 2) := by decide +kernel
theorem dX3_init_113 : decode cX3_init 113 = .ok (.putfield 51, 3) := by decide +kernel
theorem dX3_init_116 : decode cX3_init 116 = .ok (.aload_n 0, 1) := by decide +kernel
theorem dX3_init_117 : decode cX3_init 117 = .ok (.bipush 20, 2) := by decide +kernel
theorem dX3_init_119 : decode cX3_init 119 = .ok (.newarray .boolean, 2) := by decide +kernel
theorem dX3_init_121 : decode cX3_init 121 = .ok (.putfield 54, 3) := by decide +kernel
theorem dX3_init_124 : decode cX3_init 124 = .ok (.aload_n 0, 1) := by decide +kernel
theorem dX3_init_125 : decode cX3_init 125 = .ok (.bipush 7, 2) := by decide +kernel
theorem dX3_init_127 : decode cX3_init 127 = .ok (.newarray .int, 2) := by decide +kernel
theorem dX3_init_129 : decode cX3_init 129 = .ok (.putfield 57, 3) := by decide +kernel
theorem dX3_init_132 : decode cX3_init 132 = .ok (.return_, 1) := by decide +kernel
theorem dX3_thrown_0 : decode cX3_thrown 0 = .ok (.aload_n 0, 1) := by decide +kernel
theorem dX3_thrown_1 : decode cX3_thrown 1 = .ok (.getfield 60, 3) := by decide +kernel
theorem dX3_thrown_4 : decode cX3_thrown 4 = .ok (.ireturn, 1) := by decide +kernel
theorem dX3_fails_0 : decode cX3_fails 0 = .ok (.aload_n 0, 1) := by decide +kernel
theorem dX3_fails_1 : decode cX3_fails 1 = .ok (.iload_n 1, 1) := by decide +kernel
theorem dX3_fails_2 : decode cX3_fails 2 = .ok (.putfield 60, 3) := by decide +kernel
theorem dX3_fails_5 : decode cX3_fails 5 = .ok (.iconst 0, 1) := by decide +kernel
theorem dX3_fails_6 : decode cX3_fails 6 = .ok (.ireturn, 1) := by decide +kernel
theorem dX3_in_0 : decode cX3_in 0 = .ok (.iload_n 0, 1) := by decide +kernel
theorem dX3_in_1 : decode cX3_in 1 = .ok (.iload_n 1, 1) := by decide +kernel
theorem dX3_in_2 : decode cX3_in 2 = .ok (.if_icmp .lt 12, 3) := by decide +kernel
theorem dX3_in_5 : decode cX3_in 5 = .ok (.iload_n 0, 1) := by decide +kernel
theorem dX3_in_6 : decode cX3_in 6 = .ok (.iload_n 2, 1) := by decide +kernel
theorem dX3_in_7 : decode cX3_in 7 = .ok (.if_icmp .gt 7, 3) := by decide +kernel
theorem dX3_in_10 : decode cX3_in 10 = .ok (.iconst 1, 1) := by decide +kernel
theorem dX3_in_11 : decode cX3_in 11 = .ok (.goto 4, 3) := by decide +kernel
theorem dX3_in_14 : decode cX3_in 14 = .ok (.iconst 0, 1) := by decide +kernel
theorem dX3_in_15 : decode cX3_in 15 = .ok (.ireturn, 1) := by decide +kernel
set_option maxRecDepth 20000 in
theorem ggX3_isBidder_X3_in : GoodIn wsX3_isBidder wsX3_in := goodIn_r _ [4] (by decide +kernel) (by decide +kernel)
set_option maxRecDepth 20000 in
theorem gX3_isBidder_X3_in : GoodIn wsX3_isBidder (va_wsS RX3 63 yX3_in wsX3_in) := goodIn_app (goodIn_of _ (by decide +kernel)) ggX3_isBidder_X3_in
theorem dX3_isBidder_0 : decode cX3_isBidder 0 = .ok (.iload_n 0, 1) := by decide +kernel
theorem dX3_isBidder_1 : decode cX3_isBidder 1 = .ok (.iconst 0, 1) := by decide +kernel
theorem dX3_isBidder_2 : decode cX3_isBidder 2 = .ok (.bipush 6, 2) := by decide +kernel
theorem dX3_isBidder_4 : decode cX3_isBidder 4 = .ok (.invokestatic 63, 3) := by decide +kernel
theorem dX3_isBidder_7 : decode cX3_isBidder 7 = .ok (.ireturn, 1) := by decide +kernel
set_option maxRecDepth 20000 in
theorem ggX3_isTender_X3_in : GoodIn wsX3_isTender wsX3_in := goodIn_r _ [5] (by decide +kernel) (by decide +kernel)
set_option maxRecDepth 20000 in
theorem gX3_isTender_X3_in : GoodIn wsX3_isTender (va_wsS RX3 63 yX3_in wsX3_in) := goodIn_app (goodIn_of _ (by decide +kernel)) ggX3_isTender_X3_in
theorem dX3_isTender_0 : decode cX3_isTender 0 = .ok (.iload_n 1, 1) := by decide +kernel
theorem dX3_isTender_1 : decode cX3_isTender 1 = .ok (.iconst 0, 1) := by decide +kernel
theorem dX3_isTender_2 : decode cX3_isTender 2 = .ok (.aload_n 0, 1) := by decide +kernel
theorem dX3_isTender_3 : decode cX3_isTender 3 = .ok (.getfield 67, 3) := by decide +kernel
theorem dX3_isTender_6 : decode cX3_isTender 6 = .ok (.iconst 1, 1) := by decide +kernel
theorem dX3_isTender_7 : decode cX3_isTender 7 = .ok (.isub, 1) := by decide +kernel
theorem dX3_isTender_8 : decode cX3_isTender 8 = .ok (.invokestatic 63, 3) := by decide +kernel
theorem dX3_isTender_11 : decode cX3_isTender 11 = .ok (.ireturn, 1) := by decide +kernel
set_option maxRecDepth 20000 in
theorem ggX3_isFile_X3_in : GoodIn wsX3_isFile wsX3_in := goodIn_r _ [5] (by decide +kernel) (by decide +kernel)
set_option maxRecDepth 20000 in
theorem gX3_isFile_X3_in : GoodIn wsX3_isFile (va_wsS RX3 63 yX3_in wsX3_in) := goodIn_app (goodIn_of _ (by decide +kernel)) ggX3_isFile_X3_in
theorem dX3_isFile_0 : decode cX3_isFile 0 = .ok (.iload_n 1, 1) := by decide +kernel
theorem dX3_isFile_1 : decode cX3_isFile 1 = .ok (.iconst 0, 1) := by decide +kernel
theorem dX3_isFile_2 : decode cX3_isFile 2 = .ok (.aload_n 0, 1) := by decide +kernel
theorem dX3_isFile_3 : decode cX3_isFile 3 = .ok (.getfield 70, 3) := by decide +kernel
theorem dX3_isFile_6 : decode cX3_isFile 6 = .ok (.iconst 1, 1) := by decide +kernel
theorem dX3_isFile_7 : decode cX3_isFile 7 = .ok (.isub, 1) := by decide +kernel
theorem dX3_isFile_8 : decode cX3_isFile 8 = .ok (.invokestatic 63, 3) := by decide +kernel
theorem dX3_isFile_11 : decode cX3_isFile 11 = .ok (.ireturn, 1) := by decide +kernel
set_option maxRecDepth 20000 in
theorem ggX3_isPair_X3_isBidder : GoodIn wsX3_isPair wsX3_isBidder := goodIn_r _ [4, 5, 6, 3, 7] (by decide +kernel) (by decide +kernel)
set_option maxRecDepth 20000 in
theorem gX3_isPair_X3_isBidder : GoodIn wsX3_isPair (va_wsS RX3 73 yX3_isBidder wsX3_isBidder) := goodIn_app (goodIn_of _ (by decide +kernel)) ggX3_isPair_X3_isBidder
theorem dX3_isPair_0 : decode cX3_isPair 0 = .ok (.iload_n 0, 1) := by decide +kernel
theorem dX3_isPair_1 : decode cX3_isPair 1 = .ok (.invokestatic 73, 3) := by decide +kernel
theorem dX3_isPair_4 : decode cX3_isPair 4 = .ok (.ifCond .eq 19, 3) := by decide +kernel
theorem dX3_isPair_7 : decode cX3_isPair 7 = .ok (.iload_n 1, 1) := by decide +kernel
theorem dX3_isPair_8 : decode cX3_isPair 8 = .ok (.invokestatic 73, 3) := by decide +kernel
theorem dX3_isPair_11 : decode cX3_isPair 11 = .ok (.ifCond .eq 12, 3) := by decide +kernel
theorem dX3_isPair_14 : decode cX3_isPair 14 = .ok (.iload_n 0, 1) := by decide +kernel
theorem dX3_isPair_15 : decode cX3_isPair 15 = .ok (.iload_n 1, 1) := by decide +kernel
theorem dX3_isPair_16 : decode cX3_isPair 16 = .ok (.if_icmp .eq 7, 3) := by decide +kernel
theorem dX3_isPair_19 : decode cX3_isPair 19 = .ok (.iconst 1, 1) := by decide +kernel
theorem dX3_isPair_20 : decode cX3_isPair 20 = .ok (.goto 4, 3) := by decide +kernel
theorem dX3_isPair_23 : decode cX3_isPair 23 = .ok (.iconst 0, 1) := by decide +kernel
theorem dX3_isPair_24 : decode cX3_isPair 24 = .ok (.ireturn, 1) := by decide +kernel
set_option maxRecDepth 20000 in
theorem ggX3_open_X3_fails : GoodIn wsX3_open wsX3_fails := goodIn_r _ [8, 1, 9, 10, 11, 12, 13, 14, 15, 16, 17, 18, 19, 20, 21, 22, 23, 24, 25, 26, 27] (by decide +kernel) (by decide +kernel)
set_option maxRecDepth 20000 in
theorem gX3_open_X3_fails : GoodIn wsX3_open (wsV RX3 77 RX3 yX3_fails wsX3_fails) := goodIn_app (goodIn_of _ (by decide +kernel)) ggX3_open_X3_fails
theorem dX3_open_0 : decode cX3_open 0 = .ok (.aload_n 0, 1) := by decide +kernel
theorem dX3_open_1 : decode cX3_open 1 = .ok (.iconst 0, 1) := by decide +kernel
theorem dX3_open_2 : decode cX3_open 2 = .ok (.putfield 60, 3) := by decide +kernel
theorem dX3_open_5 : decode cX3_open 5 = .ok (.aload_n 0, 1) := by decide +kernel
theorem dX3_open_6 : decode cX3_open 6 = .ok (.getfield 67, 3) := by decide +kernel
theorem dX3_open_9 : decode cX3_open 9 = .ok (.bipush 30, 2) := by decide +kernel
theorem dX3_open_11 : decode cX3_open 11 = .ok (.if_icmp .ne 9, 3) := by decide +kernel
theorem dX3_open_14 : decode cX3_open 14 = .ok (.aload_n 0, 1) := by decide +kernel
theorem dX3_open_15 : decode cX3_open 15 = .ok (.iconst 1, 1) := by decide +kernel
theorem dX3_open_16 : decode cX3_open 16 = .ok (.invokevirtual 77, 3) := by decide +kernel
theorem dX3_open_19 : decode cX3_open 19 = .ok (.ireturn, 1) := by decide +kernel
theorem dX3_open_20 : decode cX3_open 20 = .ok (.aload_n 0, 1) := by decide +kernel
theorem dX3_open_21 : decode cX3_open 21 = .ok (.getfield 16, 3) := by decide +kernel
theorem dX3_open_24 : decode cX3_open 24 = .ok (.aload_n 0, 1) := by decide +kernel
theorem dX3_open_25 : decode cX3_open 25 = .ok (.getfield 67, 3) := by decide +kernel
theorem dX3_open_28 : decode cX3_open 28 = .ok (.iconst (-1), 1) := by decide +kernel
theorem dX3_open_29 : decode cX3_open 29 = .ok (.iastore, 1) := by decide +kernel
theorem dX3_open_30 : decode cX3_open 30 = .ok (.aload_n 0, 1) := by decide +kernel
theorem dX3_open_31 : decode cX3_open 31 = .ok (.dup, 1) := by decide +kernel
theorem dX3_open_32 : decode cX3_open 32 = .ok (.getfield 67, 3) := by decide +kernel
theorem dX3_open_35 : decode cX3_open 35 = .ok (.iconst 1, 1) := by decide +kernel
theorem dX3_open_36 : decode cX3_open 36 = .ok (.iadd, 1) := by decide +kernel
theorem dX3_open_37 : decode cX3_open 37 = .ok (.putfield 67, 3) := by decide +kernel
theorem dX3_open_40 : decode cX3_open 40 = .ok (.aload_n 0, 1) := by decide +kernel
theorem dX3_open_41 : decode cX3_open 41 = .ok (.getfield 67, 3) := by decide +kernel
theorem dX3_open_44 : decode cX3_open 44 = .ok (.iconst 1, 1) := by decide +kernel
theorem dX3_open_45 : decode cX3_open 45 = .ok (.isub, 1) := by decide +kernel
theorem dX3_open_46 : decode cX3_open 46 = .ok (.ireturn, 1) := by decide +kernel
theorem dX3_stands_0 : decode cX3_stands 0 = .ok (.aload_n 0, 1) := by decide +kernel
theorem dX3_stands_1 : decode cX3_stands 1 = .ok (.getfield 22, 3) := by decide +kernel
theorem dX3_stands_4 : decode cX3_stands 4 = .ok (.bipush 7, 2) := by decide +kernel
theorem dX3_stands_6 : decode cX3_stands 6 = .ok (.iload_n 1, 1) := by decide +kernel
theorem dX3_stands_7 : decode cX3_stands 7 = .ok (.imul, 1) := by decide +kernel
theorem dX3_stands_8 : decode cX3_stands 8 = .ok (.iload_n 2, 1) := by decide +kernel
theorem dX3_stands_9 : decode cX3_stands 9 = .ok (.iadd, 1) := by decide +kernel
theorem dX3_stands_10 : decode cX3_stands 10 = .ok (.iaload, 1) := by decide +kernel
theorem dX3_stands_11 : decode cX3_stands 11 = .ok (.ifCond .le 21, 3) := by decide +kernel
theorem dX3_stands_14 : decode cX3_stands 14 = .ok (.aload_n 0, 1) := by decide +kernel
theorem dX3_stands_15 : decode cX3_stands 15 = .ok (.getfield 25, 3) := by decide +kernel
theorem dX3_stands_18 : decode cX3_stands 18 = .ok (.bipush 7, 2) := by decide +kernel
theorem dX3_stands_20 : decode cX3_stands 20 = .ok (.iload_n 1, 1) := by decide +kernel
theorem dX3_stands_21 : decode cX3_stands 21 = .ok (.imul, 1) := by decide +kernel
theorem dX3_stands_22 : decode cX3_stands 22 = .ok (.iload_n 2, 1) := by decide +kernel
theorem dX3_stands_23 : decode cX3_stands 23 = .ok (.iadd, 1) := by decide +kernel
theorem dX3_stands_24 : decode cX3_stands 24 = .ok (.baload, 1) := by decide +kernel
theorem dX3_stands_25 : decode cX3_stands 25 = .ok (.ifCond .ne 7, 3) := by decide +kernel
theorem dX3_stands_28 : decode cX3_stands 28 = .ok (.iconst 1, 1) := by decide +kernel
theorem dX3_stands_29 : decode cX3_stands 29 = .ok (.goto 4, 3) := by decide +kernel
theorem dX3_stands_32 : decode cX3_stands 32 = .ok (.iconst 0, 1) := by decide +kernel
theorem dX3_stands_33 : decode cX3_stands 33 = .ok (.ireturn, 1) := by decide +kernel
set_option maxRecDepth 20000 in
theorem ggX3_countBids_X3_stands : GoodIn wsX3_countBids wsX3_stands := goodIn_r _ [5, 6, 7, 8, 9, 10, 11, 12, 13, 14, 15, 16, 17, 18, 19, 20, 21, 22, 23, 24, 25, 26] (by decide +kernel) (by decide +kernel)
set_option maxRecDepth 20000 in
theorem gX3_countBids_X3_stands : GoodIn wsX3_countBids (wsV RX3 81 RX3 yX3_stands wsX3_stands) := goodIn_app (goodIn_of _ (by decide +kernel)) ggX3_countBids_X3_stands
theorem dX3_countBids_0 : decode cX3_countBids 0 = .ok (.iconst 0, 1) := by decide +kernel
theorem dX3_countBids_1 : decode cX3_countBids 1 = .ok (.istore_n 2, 1) := by decide +kernel
theorem dX3_countBids_2 : decode cX3_countBids 2 = .ok (.iconst 0, 1) := by decide +kernel
theorem dX3_countBids_3 : decode cX3_countBids 3 = .ok (.istore_n 3, 1) := by decide +kernel
theorem dX3_countBids_4 : decode cX3_countBids 4 = .ok (.iload_n 3, 1) := by decide +kernel
theorem dX3_countBids_5 : decode cX3_countBids 5 = .ok (.bipush 7, 2) := by decide +kernel
theorem dX3_countBids_7 : decode cX3_countBids 7 = .ok (.if_icmp .ge 26, 3) := by decide +kernel
theorem dX3_countBids_10 : decode cX3_countBids 10 = .ok (.iload_n 2, 1) := by decide +kernel
theorem dX3_countBids_11 : decode cX3_countBids 11 = .ok (.aload_n 0, 1) := by decide +kernel
theorem dX3_countBids_12 : decode cX3_countBids 12 = .ok (.iload_n 1, 1) := by decide +kernel
theorem dX3_countBids_13 : decode cX3_countBids 13 = .ok (.iload_n 3, 1) := by decide +kernel
theorem dX3_countBids_14 : decode cX3_countBids 14 = .ok (.invokevirtual 81, 3) := by decide +kernel
theorem dX3_countBids_17 : decode cX3_countBids 17 = .ok (.ifCond .eq 7, 3) := by decide +kernel
theorem dX3_countBids_20 : decode cX3_countBids 20 = .ok (.iconst 1, 1) := by decide +kernel
theorem dX3_countBids_21 : decode cX3_countBids 21 = .ok (.goto 4, 3) := by decide +kernel
theorem dX3_countBids_24 : decode cX3_countBids 24 = .ok (.iconst 0, 1) := by decide +kernel
theorem dX3_countBids_25 : decode cX3_countBids 25 = .ok (.iadd, 1) := by decide +kernel
theorem dX3_countBids_26 : decode cX3_countBids 26 = .ok (.istore_n 2, 1) := by decide +kernel
theorem dX3_countBids_27 : decode cX3_countBids 27 = .ok (.iinc 3 1, 3) := by decide +kernel
theorem dX3_countBids_30 : decode cX3_countBids 30 = .ok (.goto (-26), 3) := by decide +kernel
theorem dX3_countBids_33 : decode cX3_countBids 33 = .ok (.iload_n 2, 1) := by decide +kernel
theorem dX3_countBids_34 : decode cX3_countBids 34 = .ok (.ireturn, 1) := by decide +kernel
set_option maxRecDepth 20000 in
theorem ggX3_bid_X3_isTender : GoodIn wsX3_bid wsX3_isTender := goodIn_r _ [9, 10, 11, 12, 8, 13, 30, 31, 32, 33, 34, 35, 36, 37, 38, 39, 40, 41, 42, 43, 44, 45, 46, 47, 48] (by decide +kernel) (by decide +kernel)
set_option maxRecDepth 20000 in
theorem gX3_bid_X3_isTender : GoodIn wsX3_bid (wsV RX3 85 RX3 yX3_isTender wsX3_isTender) := goodIn_app (goodIn_of _ (by decide +kernel)) ggX3_bid_X3_isTender
set_option maxRecDepth 20000 in
theorem ggX3_bid_X3_fails : GoodIn wsX3_bid wsX3_fails := goodIn_r _ [17, 1, 30, 31, 32, 33, 34, 35, 36, 37, 38, 39, 40, 41, 42, 43, 44, 45, 46, 47, 48] (by decide +kernel) (by decide +kernel)
set_option maxRecDepth 20000 in
theorem gX3_bid_X3_fails : GoodIn wsX3_bid (wsV RX3 77 RX3 yX3_fails wsX3_fails) := goodIn_app (goodIn_of _ (by decide +kernel)) ggX3_bid_X3_fails
set_option maxRecDepth 20000 in
theorem ggX3_bid_X3_isBidder : GoodIn wsX3_bid wsX3_isBidder := goodIn_r _ [20, 11, 12, 8, 13] (by decide +kernel) (by decide +kernel)
set_option maxRecDepth 20000 in
theorem gX3_bid_X3_isBidder : GoodIn wsX3_bid (va_wsS RX3 73 yX3_isBidder wsX3_isBidder) := goodIn_app (goodIn_of _ (by decide +kernel)) ggX3_bid_X3_isBidder
set_option maxRecDepth 20000 in
theorem ggX3_bid_X3_in : GoodIn wsX3_bid wsX3_in := goodIn_r _ [13] (by decide +kernel) (by decide +kernel)
set_option maxRecDepth 20000 in
theorem gX3_bid_X3_in : GoodIn wsX3_bid (va_wsS RX3 63 yX3_in wsX3_in) := goodIn_app (goodIn_of _ (by decide +kernel)) ggX3_bid_X3_in
set_option maxRecDepth 20000 in
theorem ggX3_bid_X3_countBids : GoodIn wsX3_bid wsX3_countBids := goodIn_r _ [24, 25, 26, 27, 8, 28, 4, 29, 30, 31, 32, 33, 34, 35, 36, 37, 38, 39, 40, 41, 42, 43, 44, 45, 46, 47, 48] (by decide +kernel) (by decide +kernel)
set_option maxRecDepth 20000 in
theorem gX3_bid_X3_countBids : GoodIn wsX3_bid (wsV RX3 89 RX3 yX3_countBids wsX3_countBids) := goodIn_app (goodIn_of _ (by decide +kernel)) ggX3_bid_X3_countBids
theorem dX3_bid_0 : decode cX3_bid 0 = .ok (.aload_n 0, 1) := by decide +kernel
theorem dX3_bid_1 : decode cX3_bid 1 = .ok (.iconst 0, 1) := by decide +kernel
theorem dX3_bid_2 : decode cX3_bid 2 = .ok (.putfield 60, 3) := by decide +kernel
theorem dX3_bid_5 : decode cX3_bid 5 = .ok (.aload_n 0, 1) := by decide +kernel
theorem dX3_bid_6 : decode cX3_bid 6 = .ok (.iload_n 1, 1) := by decide +kernel
theorem dX3_bid_7 : decode cX3_bid 7 = .ok (.invokevirtual 85, 3) := by decide +kernel
theorem dX3_bid_10 : decode cX3_bid 10 = .ok (.ifCond .ne 9, 3) := by decide +kernel
theorem dX3_bid_13 : decode cX3_bid 13 = .ok (.aload_n 0, 1) := by decide +kernel
theorem dX3_bid_14 : decode cX3_bid 14 = .ok (.iconst 1, 1) := by decide +kernel
theorem dX3_bid_15 : decode cX3_bid 15 = .ok (.invokevirtual 77, 3) := by decide +kernel
theorem dX3_bid_18 : decode cX3_bid 18 = .ok (.ireturn, 1) := by decide +kernel
theorem dX3_bid_19 : decode cX3_bid 19 = .ok (.iload_n 2, 1) := by decide +kernel
theorem dX3_bid_20 : decode cX3_bid 20 = .ok (.invokestatic 73, 3) := by decide +kernel
theorem dX3_bid_23 : decode cX3_bid 23 = .ok (.ifCond .eq 13, 3) := by decide +kernel
theorem dX3_bid_26 : decode cX3_bid 26 = .ok (.iload_n 3, 1) := by decide +kernel
theorem dX3_bid_27 : decode cX3_bid 27 = .ok (.iconst 1, 1) := by decide +kernel
theorem dX3_bid_28 : decode cX3_bid 28 = .ok (.ldc 88, 2) := by decide +kernel
theorem dX3_bid_30 : decode cX3_bid 30 = .ok (.invokestatic 63, 3) := by decide +kernel
theorem dX3_bid_33 : decode cX3_bid 33 = .ok (.ifCond .ne 9, 3) := by decide +kernel
theorem dX3_bid_36 : decode cX3_bid 36 = .ok (.aload_n 0, 1) := by decide +kernel
theorem dX3_bid_37 : decode cX3_bid 37 = .ok (.iconst 2, 1) := by decide +kernel
theorem dX3_bid_38 : decode cX3_bid 38 = .ok (.invokevirtual 77, 3) := by decide +kernel
theorem dX3_bid_41 : decode cX3_bid 41 = .ok (.ireturn, 1) := by decide +kernel
theorem dX3_bid_42 : decode cX3_bid 42 = .ok (.aload_n 0, 1) := by decide +kernel
theorem dX3_bid_43 : decode cX3_bid 43 = .ok (.getfield 7, 3) := by decide +kernel
theorem dX3_bid_46 : decode cX3_bid 46 = .ok (.iload_n 1, 1) := by decide +kernel
theorem dX3_bid_47 : decode cX3_bid 47 = .ok (.iaload, 1) := by decide +kernel
theorem dX3_bid_48 : decode cX3_bid 48 = .ok (.ifCond .ne 17, 3) := by decide +kernel
theorem dX3_bid_51 : decode cX3_bid 51 = .ok (.aload_n 0, 1) := by decide +kernel
theorem dX3_bid_52 : decode cX3_bid 52 = .ok (.getfield 22, 3) := by decide +kernel
theorem dX3_bid_55 : decode cX3_bid 55 = .ok (.bipush 7, 2) := by decide +kernel
theorem dX3_bid_57 : decode cX3_bid 57 = .ok (.iload_n 1, 1) := by decide +kernel
theorem dX3_bid_58 : decode cX3_bid 58 = .ok (.imul, 1) := by decide +kernel
theorem dX3_bid_59 : decode cX3_bid 59 = .ok (.iload_n 2, 1) := by decide +kernel
theorem dX3_bid_60 : decode cX3_bid 60 = .ok (.iadd, 1) := by decide +kernel
theorem dX3_bid_61 : decode cX3_bid 61 = .ok (.iaload, 1) := by decide +kernel
theorem dX3_bid_62 : decode cX3_bid 62 = .ok (.ifCond .le 9, 3) := by decide +kernel
theorem dX3_bid_65 : decode cX3_bid 65 = .ok (.aload_n 0, 1) := by decide +kernel
theorem dX3_bid_66 : decode cX3_bid 66 = .ok (.iconst 3, 1) := by decide +kernel
theorem dX3_bid_67 : decode cX3_bid 67 = .ok (.invokevirtual 77, 3) := by decide +kernel
theorem dX3_bid_70 : decode cX3_bid 70 = .ok (.ireturn, 1) := by decide +kernel
theorem dX3_bid_71 : decode cX3_bid 71 = .ok (.aload_n 0, 1) := by decide +kernel
theorem dX3_bid_72 : decode cX3_bid 72 = .ok (.getfield 22, 3) := by decide +kernel
theorem dX3_bid_75 : decode cX3_bid 75 = .ok (.bipush 7, 2) := by decide +kernel
theorem dX3_bid_77 : decode cX3_bid 77 = .ok (.iload_n 1, 1) := by decide +kernel
theorem dX3_bid_78 : decode cX3_bid 78 = .ok (.imul, 1) := by decide +kernel
theorem dX3_bid_79 : decode cX3_bid 79 = .ok (.iload_n 2, 1) := by decide +kernel
theorem dX3_bid_80 : decode cX3_bid 80 = .ok (.iadd, 1) := by decide +kernel
theorem dX3_bid_81 : decode cX3_bid 81 = .ok (.iload_n 3, 1) := by decide +kernel
theorem dX3_bid_82 : decode cX3_bid 82 = .ok (.iastore, 1) := by decide +kernel
theorem dX3_bid_83 : decode cX3_bid 83 = .ok (.aload_n 0, 1) := by decide +kernel
theorem dX3_bid_84 : decode cX3_bid 84 = .ok (.iload_n 1, 1) := by decide +kernel
theorem dX3_bid_85 : decode cX3_bid 85 = .ok (.invokevirtual 89, 3) := by decide +kernel
theorem dX3_bid_88 : decode cX3_bid 88 = .ok (.ireturn, 1) := by decide +kernel
set_option maxRecDepth 20000 in
theorem ggX3_withdraw_X3_isTender : GoodIn wsX3_withdraw wsX3_isTender := goodIn_r _ [9, 10, 11, 12, 8, 13, 25, 26, 27, 28, 29, 30, 31, 32, 33, 34, 35, 36, 37, 38, 39, 40, 41, 42, 43] (by decide +kernel) (by decide +kernel)
set_option maxRecDepth 20000 in
theorem gX3_withdraw_X3_isTender : GoodIn wsX3_withdraw (wsV RX3 85 RX3 yX3_isTender wsX3_isTender) := goodIn_app (goodIn_of _ (by decide +kernel)) ggX3_withdraw_X3_isTender
set_option maxRecDepth 20000 in
theorem ggX3_withdraw_X3_fails : GoodIn wsX3_withdraw wsX3_fails := goodIn_r _ [17, 1, 25, 26, 27, 28, 29, 30, 31, 32, 33, 34, 35, 36, 37, 38, 39, 40, 41, 42, 43] (by decide +kernel) (by decide +kernel)
set_option maxRecDepth 20000 in
theorem gX3_withdraw_X3_fails : GoodIn wsX3_withdraw (wsV RX3 77 RX3 yX3_fails wsX3_fails) := goodIn_app (goodIn_of _ (by decide +kernel)) ggX3_withdraw_X3_fails
set_option maxRecDepth 20000 in
theorem ggX3_withdraw_X3_isBidder : GoodIn wsX3_withdraw wsX3_isBidder := goodIn_r _ [20, 11, 12, 8, 13] (by decide +kernel) (by decide +kernel)
set_option maxRecDepth 20000 in
theorem gX3_withdraw_X3_isBidder : GoodIn wsX3_withdraw (va_wsS RX3 73 yX3_isBidder wsX3_isBidder) := goodIn_app (goodIn_of _ (by decide +kernel)) ggX3_withdraw_X3_isBidder
set_option maxRecDepth 20000 in
theorem ggX3_withdraw_X3_stands : GoodIn wsX3_withdraw wsX3_stands := goodIn_r _ [24, 4, 3, 25, 26, 27, 28, 29, 30, 31, 32, 33, 34, 35, 36, 37, 38, 39, 40, 41, 42, 43] (by decide +kernel) (by decide +kernel)
set_option maxRecDepth 20000 in
theorem gX3_withdraw_X3_stands : GoodIn wsX3_withdraw (wsV RX3 81 RX3 yX3_stands wsX3_stands) := goodIn_app (goodIn_of _ (by decide +kernel)) ggX3_withdraw_X3_stands
theorem dX3_withdraw_0 : decode cX3_withdraw 0 = .ok (.aload_n 0, 1) := by decide +kernel
theorem dX3_withdraw_1 : decode cX3_withdraw 1 = .ok (.iconst 0, 1) := by decide +kernel
theorem dX3_withdraw_2 : decode cX3_withdraw 2 = .ok (.putfield 60, 3) := by decide +kernel
theorem dX3_withdraw_5 : decode cX3_withdraw 5 = .ok (.aload_n 0, 1) := by decide +kernel
theorem dX3_withdraw_6 : decode cX3_withdraw 6 = .ok (.iload_n 1, 1) := by decide +kernel
theorem dX3_withdraw_7 : decode cX3_withdraw 7 = .ok (.invokevirtual 85, 3) := by decide +kernel
theorem dX3_withdraw_10 : decode cX3_withdraw 10 = .ok (.ifCond .ne 9, 3) := by decide +kernel
theorem dX3_withdraw_13 : decode cX3_withdraw 13 = .ok (.aload_n 0, 1) := by decide +kernel
theorem dX3_withdraw_14 : decode cX3_withdraw 14 = .ok (.iconst 1, 1) := by decide +kernel
theorem dX3_withdraw_15 : decode cX3_withdraw 15 = .ok (.invokevirtual 77, 3) := by decide +kernel
theorem dX3_withdraw_18 : decode cX3_withdraw 18 = .ok (.ireturn, 1) := by decide +kernel
theorem dX3_withdraw_19 : decode cX3_withdraw 19 = .ok (.iload_n 2, 1) := by decide +kernel
theorem dX3_withdraw_20 : decode cX3_withdraw 20 = .ok (.invokestatic 73, 3) := by decide +kernel
theorem dX3_withdraw_23 : decode cX3_withdraw 23 = .ok (.ifCond .ne 9, 3) := by decide +kernel
theorem dX3_withdraw_26 : decode cX3_withdraw 26 = .ok (.aload_n 0, 1) := by decide +kernel
theorem dX3_withdraw_27 : decode cX3_withdraw 27 = .ok (.iconst 2, 1) := by decide +kernel
theorem dX3_withdraw_28 : decode cX3_withdraw 28 = .ok (.invokevirtual 77, 3) := by decide +kernel
theorem dX3_withdraw_31 : decode cX3_withdraw 31 = .ok (.ireturn, 1) := by decide +kernel
theorem dX3_withdraw_32 : decode cX3_withdraw 32 = .ok (.aload_n 0, 1) := by decide +kernel
theorem dX3_withdraw_33 : decode cX3_withdraw 33 = .ok (.getfield 7, 3) := by decide +kernel
theorem dX3_withdraw_36 : decode cX3_withdraw 36 = .ok (.iload_n 1, 1) := by decide +kernel
theorem dX3_withdraw_37 : decode cX3_withdraw 37 = .ok (.iaload, 1) := by decide +kernel
theorem dX3_withdraw_38 : decode cX3_withdraw 38 = .ok (.ifCond .ne 12, 3) := by decide +kernel
theorem dX3_withdraw_41 : decode cX3_withdraw 41 = .ok (.aload_n 0, 1) := by decide +kernel
theorem dX3_withdraw_42 : decode cX3_withdraw 42 = .ok (.iload_n 1, 1) := by decide +kernel
theorem dX3_withdraw_43 : decode cX3_withdraw 43 = .ok (.iload_n 2, 1) := by decide +kernel
theorem dX3_withdraw_44 : decode cX3_withdraw 44 = .ok (.invokevirtual 81, 3) := by decide +kernel
theorem dX3_withdraw_47 : decode cX3_withdraw 47 = .ok (.ifCond .ne 9, 3) := by decide +kernel
theorem dX3_withdraw_50 : decode cX3_withdraw 50 = .ok (.aload_n 0, 1) := by decide +kernel
theorem dX3_withdraw_51 : decode cX3_withdraw 51 = .ok (.iconst 3, 1) := by decide +kernel
theorem dX3_withdraw_52 : decode cX3_withdraw 52 = .ok (.invokevirtual 77, 3) := by decide +kernel
theorem dX3_withdraw_55 : decode cX3_withdraw 55 = .ok (.ireturn, 1) := by decide +kernel
theorem dX3_withdraw_56 : decode cX3_withdraw 56 = .ok (.aload_n 0, 1) := by decide +kernel
theorem dX3_withdraw_57 : decode cX3_withdraw 57 = .ok (.getfield 25, 3) := by decide +kernel
theorem dX3_withdraw_60 : decode cX3_withdraw 60 = .ok (.bipush 7, 2) := by decide +kernel
theorem dX3_withdraw_62 : decode cX3_withdraw 62 = .ok (.iload_n 1, 1) := by decide +kernel
theorem dX3_withdraw_63 : decode cX3_withdraw 63 = .ok (.imul, 1) := by decide +kernel
theorem dX3_withdraw_64 : decode cX3_withdraw 64 = .ok (.iload_n 2, 1) := by decide +kernel
theorem dX3_withdraw_65 : decode cX3_withdraw 65 = .ok (.iadd, 1) := by decide +kernel
theorem dX3_withdraw_66 : decode cX3_withdraw 66 = .ok (.iconst 1, 1) := by decide +kernel
theorem dX3_withdraw_67 : decode cX3_withdraw 67 = .ok (.bastore, 1) := by decide +kernel
theorem dX3_withdraw_68 : decode cX3_withdraw 68 = .ok (.aload_n 0, 1) := by decide +kernel
theorem dX3_withdraw_69 : decode cX3_withdraw 69 = .ok (.getfield 22, 3) := by decide +kernel
theorem dX3_withdraw_72 : decode cX3_withdraw 72 = .ok (.bipush 7, 2) := by decide +kernel
theorem dX3_withdraw_74 : decode cX3_withdraw 74 = .ok (.iload_n 1, 1) := by decide +kernel
theorem dX3_withdraw_75 : decode cX3_withdraw 75 = .ok (.imul, 1) := by decide +kernel
theorem dX3_withdraw_76 : decode cX3_withdraw 76 = .ok (.iload_n 2, 1) := by decide +kernel
theorem dX3_withdraw_77 : decode cX3_withdraw 77 = .ok (.iadd, 1) := by decide +kernel
theorem dX3_withdraw_78 : decode cX3_withdraw 78 = .ok (.iaload, 1) := by decide +kernel
theorem dX3_withdraw_79 : decode cX3_withdraw 79 = .ok (.ireturn, 1) := by decide +kernel
set_option maxRecDepth 20000 in
theorem ggX3_award_X3_isTender : GoodIn wsX3_award wsX3_isTender := goodIn_r _ [9, 10, 11, 12, 8, 13, 23, 24, 25, 26, 27, 28, 29, 30, 31, 32, 33, 34, 35, 36, 37, 38, 39, 40, 41] (by decide +kernel) (by decide +kernel)
set_option maxRecDepth 20000 in
theorem gX3_award_X3_isTender : GoodIn wsX3_award (wsV RX3 85 RX3 yX3_isTender wsX3_isTender) := goodIn_app (goodIn_of _ (by decide +kernel)) ggX3_award_X3_isTender
set_option maxRecDepth 20000 in
theorem ggX3_award_X3_fails : GoodIn wsX3_award wsX3_fails := goodIn_r _ [17, 1, 23, 24, 25, 26, 27, 28, 29, 30, 31, 32, 33, 34, 35, 36, 37, 38, 39, 40, 41] (by decide +kernel) (by decide +kernel)
set_option maxRecDepth 20000 in
theorem gX3_award_X3_fails : GoodIn wsX3_award (wsV RX3 77 RX3 yX3_fails wsX3_fails) := goodIn_app (goodIn_of _ (by decide +kernel)) ggX3_award_X3_fails
set_option maxRecDepth 20000 in
theorem ggX3_award_X3_stands : GoodIn wsX3_award wsX3_stands := goodIn_r _ [21, 3, 22, 23, 24, 25, 26, 27, 28, 29, 30, 31, 32, 33, 34, 35, 36, 37, 38, 39, 40, 41] (by decide +kernel) (by decide +kernel)
set_option maxRecDepth 20000 in
theorem gX3_award_X3_stands : GoodIn wsX3_award (wsV RX3 81 RX3 yX3_stands wsX3_stands) := goodIn_app (goodIn_of _ (by decide +kernel)) ggX3_award_X3_stands
theorem dX3_award_0 : decode cX3_award 0 = .ok (.aload_n 0, 1) := by decide +kernel
theorem dX3_award_1 : decode cX3_award 1 = .ok (.iconst 0, 1) := by decide +kernel
theorem dX3_award_2 : decode cX3_award 2 = .ok (.putfield 60, 3) := by decide +kernel
theorem dX3_award_5 : decode cX3_award 5 = .ok (.aload_n 0, 1) := by decide +kernel
theorem dX3_award_6 : decode cX3_award 6 = .ok (.iload_n 1, 1) := by decide +kernel
theorem dX3_award_7 : decode cX3_award 7 = .ok (.invokevirtual 85, 3) := by decide +kernel
theorem dX3_award_10 : decode cX3_award 10 = .ok (.ifCond .ne 9, 3) := by decide +kernel
theorem dX3_award_13 : decode cX3_award 13 = .ok (.aload_n 0, 1) := by decide +kernel
theorem dX3_award_14 : decode cX3_award 14 = .ok (.iconst 1, 1) := by decide +kernel
theorem dX3_award_15 : decode cX3_award 15 = .ok (.invokevirtual 77, 3) := by decide +kernel
theorem dX3_award_18 : decode cX3_award 18 = .ok (.ireturn, 1) := by decide +kernel
theorem dX3_award_19 : decode cX3_award 19 = .ok (.aload_n 0, 1) := by decide +kernel
theorem dX3_award_20 : decode cX3_award 20 = .ok (.getfield 7, 3) := by decide +kernel
theorem dX3_award_23 : decode cX3_award 23 = .ok (.iload_n 1, 1) := by decide +kernel
theorem dX3_award_24 : decode cX3_award 24 = .ok (.iaload, 1) := by decide +kernel
theorem dX3_award_25 : decode cX3_award 25 = .ok (.ifCond .eq 9, 3) := by decide +kernel
theorem dX3_award_28 : decode cX3_award 28 = .ok (.aload_n 0, 1) := by decide +kernel
theorem dX3_award_29 : decode cX3_award 29 = .ok (.iconst 2, 1) := by decide +kernel
theorem dX3_award_30 : decode cX3_award 30 = .ok (.invokevirtual 77, 3) := by decide +kernel
theorem dX3_award_33 : decode cX3_award 33 = .ok (.ireturn, 1) := by decide +kernel
theorem dX3_award_34 : decode cX3_award 34 = .ok (.iconst (-1), 1) := by decide +kernel
theorem dX3_award_35 : decode cX3_award 35 = .ok (.istore_n 2, 1) := by decide +kernel
theorem dX3_award_36 : decode cX3_award 36 = .ok (.iconst 0, 1) := by decide +kernel
theorem dX3_award_37 : decode cX3_award 37 = .ok (.istore_n 3, 1) := by decide +kernel
theorem dX3_award_38 : decode cX3_award 38 = .ok (.iload_n 3, 1) := by decide +kernel
theorem dX3_award_39 : decode cX3_award 39 = .ok (.bipush 7, 2) := by decide +kernel
theorem dX3_award_41 : decode cX3_award 41 = .ok (.if_icmp .ge 66, 3) := by decide +kernel
theorem dX3_award_44 : decode cX3_award 44 = .ok (.iload_n 2, 1) := by decide +kernel
theorem dX3_award_45 : decode cX3_award 45 = .ok (.iconst (-1), 1) := by decide +kernel
theorem dX3_award_46 : decode cX3_award 46 = .ok (.if_icmp .eq 28, 3) := by decide +kernel
theorem dX3_award_49 : decode cX3_award 49 = .ok (.aload_n 0, 1) := by decide +kernel
theorem dX3_award_50 : decode cX3_award 50 = .ok (.getfield 22, 3) := by decide +kernel
theorem dX3_award_53 : decode cX3_award 53 = .ok (.bipush 7, 2) := by decide +kernel
theorem dX3_award_55 : decode cX3_award 55 = .ok (.iload_n 1, 1) := by decide +kernel
theorem dX3_award_56 : decode cX3_award 56 = .ok (.imul, 1) := by decide +kernel
theorem dX3_award_57 : decode cX3_award 57 = .ok (.iload_n 3, 1) := by decide +kernel
theorem dX3_award_58 : decode cX3_award 58 = .ok (.iadd, 1) := by decide +kernel
theorem dX3_award_59 : decode cX3_award 59 = .ok (.iaload, 1) := by decide +kernel
theorem dX3_award_60 : decode cX3_award 60 = .ok (.aload_n 0, 1) := by decide +kernel
theorem dX3_award_61 : decode cX3_award 61 = .ok (.getfield 22, 3) := by decide +kernel
theorem dX3_award_64 : decode cX3_award 64 = .ok (.bipush 7, 2) := by decide +kernel
theorem dX3_award_66 : decode cX3_award 66 = .ok (.iload_n 1, 1) := by decide +kernel
theorem dX3_award_67 : decode cX3_award 67 = .ok (.imul, 1) := by decide +kernel
theorem dX3_award_68 : decode cX3_award 68 = .ok (.iload_n 2, 1) := by decide +kernel
theorem dX3_award_69 : decode cX3_award 69 = .ok (.iadd, 1) := by decide +kernel
theorem dX3_award_70 : decode cX3_award 70 = .ok (.iaload, 1) := by decide +kernel
theorem dX3_award_71 : decode cX3_award 71 = .ok (.if_icmp .ge 7, 3) := by decide +kernel
theorem dX3_award_74 : decode cX3_award 74 = .ok (.iconst 1, 1) := by decide +kernel
theorem dX3_award_75 : decode cX3_award 75 = .ok (.goto 4, 3) := by decide +kernel
theorem dX3_award_78 : decode cX3_award 78 = .ok (.iconst 0, 1) := by decide +kernel
theorem dX3_award_79 : decode cX3_award 79 = .ok (.istore 4, 2) := by decide +kernel
theorem dX3_award_81 : decode cX3_award 81 = .ok (.aload_n 0, 1) := by decide +kernel
theorem dX3_award_82 : decode cX3_award 82 = .ok (.iload_n 1, 1) := by decide +kernel
theorem dX3_award_83 : decode cX3_award 83 = .ok (.iload_n 3, 1) := by decide +kernel
theorem dX3_award_84 : decode cX3_award 84 = .ok (.invokevirtual 81, 3) := by decide +kernel
theorem dX3_award_87 : decode cX3_award 87 = .ok (.ifCond .eq 12, 3) := by decide +kernel
theorem dX3_award_90 : decode cX3_award 90 = .ok (.iload 4, 2) := by decide +kernel
theorem dX3_award_92 : decode cX3_award 92 = .ok (.ifCond .eq 7, 3) := by decide +kernel
theorem dX3_award_95 : decode cX3_award 95 = .ok (.iload_n 3, 1) := by decide +kernel
theorem dX3_award_96 : decode cX3_award 96 = .ok (.goto 4, 3) := by decide +kernel
theorem dX3_award_99 : decode cX3_award 99 = .ok (.iload_n 2, 1) := by decide +kernel
theorem dX3_award_100 : decode cX3_award 100 = .ok (.istore_n 2, 1) := by decide +kernel
theorem dX3_award_101 : decode cX3_award 101 = .ok (.iinc 3 1, 3) := by decide +kernel
theorem dX3_award_104 : decode cX3_award 104 = .ok (.goto (-66), 3) := by decide +kernel
theorem dX3_award_107 : decode cX3_award 107 = .ok (.aload_n 0, 1) := by decide +kernel
theorem dX3_award_108 : decode cX3_award 108 = .ok (.getfield 7, 3) := by decide +kernel
theorem dX3_award_111 : decode cX3_award 111 = .ok (.iload_n 1, 1) := by decide +kernel
theorem dX3_award_112 : decode cX3_award 112 = .ok (.iload_n 2, 1) := by decide +kernel
theorem dX3_award_113 : decode cX3_award 113 = .ok (.iconst (-1), 1) := by decide +kernel
theorem dX3_award_114 : decode cX3_award 114 = .ok (.if_icmp .ne 7, 3) := by decide +kernel
theorem dX3_award_117 : decode cX3_award 117 = .ok (.iconst 2, 1) := by decide +kernel
theorem dX3_award_118 : decode cX3_award 118 = .ok (.goto 4, 3) := by decide +kernel
theorem dX3_award_121 : decode cX3_award 121 = .ok (.iconst 1, 1) := by decide +kernel
theorem dX3_award_122 : decode cX3_award 122 = .ok (.iastore, 1) := by decide +kernel
theorem dX3_award_123 : decode cX3_award 123 = .ok (.aload_n 0, 1) := by decide +kernel
theorem dX3_award_124 : decode cX3_award 124 = .ok (.getfield 13, 3) := by decide +kernel
theorem dX3_award_127 : decode cX3_award 127 = .ok (.iload_n 1, 1) := by decide +kernel
theorem dX3_award_128 : decode cX3_award 128 = .ok (.iload_n 2, 1) := by decide +kernel
theorem dX3_award_129 : decode cX3_award 129 = .ok (.iastore, 1) := by decide +kernel
theorem dX3_award_130 : decode cX3_award 130 = .ok (.iload_n 2, 1) := by decide +kernel
theorem dX3_award_131 : decode cX3_award 131 = .ok (.ireturn, 1) := by decide +kernel
theorem dX3_price_0 : decode cX3_price 0 = .ok (.aload_n 0, 1) := by decide +kernel
theorem dX3_price_1 : decode cX3_price 1 = .ok (.getfield 22, 3) := by decide +kernel
theorem dX3_price_4 : decode cX3_price 4 = .ok (.bipush 7, 2) := by decide +kernel
theorem dX3_price_6 : decode cX3_price 6 = .ok (.iload_n 1, 1) := by decide +kernel
theorem dX3_price_7 : decode cX3_price 7 = .ok (.imul, 1) := by decide +kernel
theorem dX3_price_8 : decode cX3_price 8 = .ok (.aload_n 0, 1) := by decide +kernel
theorem dX3_price_9 : decode cX3_price 9 = .ok (.getfield 13, 3) := by decide +kernel
theorem dX3_price_12 : decode cX3_price 12 = .ok (.iload_n 1, 1) := by decide +kernel
theorem dX3_price_13 : decode cX3_price 13 = .ok (.iaload, 1) := by decide +kernel
theorem dX3_price_14 : decode cX3_price 14 = .ok (.iadd, 1) := by decide +kernel
theorem dX3_price_15 : decode cX3_price 15 = .ok (.iaload, 1) := by decide +kernel
theorem dX3_price_16 : decode cX3_price 16 = .ok (.ireturn, 1) := by decide +kernel
set_option maxRecDepth 20000 in
theorem ggX3_passOn_X3_isTender : GoodIn wsX3_passOn wsX3_isTender := goodIn_r _ [10, 11, 12, 13, 9, 14, 27, 28, 29, 30, 31, 32, 33, 34, 35, 36, 37, 38, 39, 40, 41, 42, 43, 44, 45] (by decide +kernel) (by decide +kernel)
set_option maxRecDepth 20000 in
theorem gX3_passOn_X3_isTender : GoodIn wsX3_passOn (wsV RX3 85 RX3 yX3_isTender wsX3_isTender) := goodIn_app (goodIn_of _ (by decide +kernel)) ggX3_passOn_X3_isTender
set_option maxRecDepth 20000 in
theorem ggX3_passOn_X3_fails : GoodIn wsX3_passOn wsX3_fails := goodIn_r _ [18, 1, 27, 28, 29, 30, 31, 32, 33, 34, 35, 36, 37, 38, 39, 40, 41, 42, 43, 44, 45] (by decide +kernel) (by decide +kernel)
set_option maxRecDepth 20000 in
theorem gX3_passOn_X3_fails : GoodIn wsX3_passOn (wsV RX3 77 RX3 yX3_fails wsX3_fails) := goodIn_app (goodIn_of _ (by decide +kernel)) ggX3_passOn_X3_fails
set_option maxRecDepth 20000 in
theorem ggX3_passOn_X3_isBidder : GoodIn wsX3_passOn wsX3_isBidder := goodIn_r _ [21, 12, 13, 9, 14] (by decide +kernel) (by decide +kernel)
set_option maxRecDepth 20000 in
theorem gX3_passOn_X3_isBidder : GoodIn wsX3_passOn (va_wsS RX3 73 yX3_isBidder wsX3_isBidder) := goodIn_app (goodIn_of _ (by decide +kernel)) ggX3_passOn_X3_isBidder
set_option maxRecDepth 20000 in
theorem ggX3_passOn_X3_price : GoodIn wsX3_passOn wsX3_price := goodIn_r _ [25, 26, 4, 27, 28, 29, 30, 31, 32, 33, 34, 35, 36, 37, 38, 39, 40, 41, 42, 43, 44, 45] (by decide +kernel) (by decide +kernel)
set_option maxRecDepth 20000 in
theorem gX3_passOn_X3_price : GoodIn wsX3_passOn (wsV RX3 92 RX3 yX3_price wsX3_price) := goodIn_app (goodIn_of _ (by decide +kernel)) ggX3_passOn_X3_price
set_option maxRecDepth 20000 in
theorem ggX3_passOn_X3_in : GoodIn wsX3_passOn wsX3_in := goodIn_r _ [14] (by decide +kernel) (by decide +kernel)
set_option maxRecDepth 20000 in
theorem gX3_passOn_X3_in : GoodIn wsX3_passOn (va_wsS RX3 63 yX3_in wsX3_in) := goodIn_app (goodIn_of _ (by decide +kernel)) ggX3_passOn_X3_in
theorem dX3_passOn_0 : decode cX3_passOn 0 = .ok (.aload_n 0, 1) := by decide +kernel
theorem dX3_passOn_1 : decode cX3_passOn 1 = .ok (.iconst 0, 1) := by decide +kernel
theorem dX3_passOn_2 : decode cX3_passOn 2 = .ok (.putfield 60, 3) := by decide +kernel
theorem dX3_passOn_5 : decode cX3_passOn 5 = .ok (.aload_n 0, 1) := by decide +kernel
theorem dX3_passOn_6 : decode cX3_passOn 6 = .ok (.iload_n 1, 1) := by decide +kernel
theorem dX3_passOn_7 : decode cX3_passOn 7 = .ok (.invokevirtual 85, 3) := by decide +kernel
theorem dX3_passOn_10 : decode cX3_passOn 10 = .ok (.ifCond .ne 9, 3) := by decide +kernel
theorem dX3_passOn_13 : decode cX3_passOn 13 = .ok (.aload_n 0, 1) := by decide +kernel
theorem dX3_passOn_14 : decode cX3_passOn 14 = .ok (.iconst 1, 1) := by decide +kernel
theorem dX3_passOn_15 : decode cX3_passOn 15 = .ok (.invokevirtual 77, 3) := by decide +kernel
theorem dX3_passOn_18 : decode cX3_passOn 18 = .ok (.ireturn, 1) := by decide +kernel
theorem dX3_passOn_19 : decode cX3_passOn 19 = .ok (.aload_n 0, 1) := by decide +kernel
theorem dX3_passOn_20 : decode cX3_passOn 20 = .ok (.getfield 7, 3) := by decide +kernel
theorem dX3_passOn_23 : decode cX3_passOn 23 = .ok (.iload_n 1, 1) := by decide +kernel
theorem dX3_passOn_24 : decode cX3_passOn 24 = .ok (.iaload, 1) := by decide +kernel
theorem dX3_passOn_25 : decode cX3_passOn 25 = .ok (.iconst 1, 1) := by decide +kernel
theorem dX3_passOn_26 : decode cX3_passOn 26 = .ok (.if_icmp .ne 13, 3) := by decide +kernel
theorem dX3_passOn_29 : decode cX3_passOn 29 = .ok (.aload_n 0, 1) := by decide +kernel
theorem dX3_passOn_30 : decode cX3_passOn 30 = .ok (.getfield 16, 3) := by decide +kernel
theorem dX3_passOn_33 : decode cX3_passOn 33 = .ok (.iload_n 1, 1) := by decide +kernel
theorem dX3_passOn_34 : decode cX3_passOn 34 = .ok (.iaload, 1) := by decide +kernel
theorem dX3_passOn_35 : decode cX3_passOn 35 = .ok (.iconst (-1), 1) := by decide +kernel
theorem dX3_passOn_36 : decode cX3_passOn 36 = .ok (.if_icmp .eq 9, 3) := by decide +kernel
theorem dX3_passOn_39 : decode cX3_passOn 39 = .ok (.aload_n 0, 1) := by decide +kernel
theorem dX3_passOn_40 : decode cX3_passOn 40 = .ok (.iconst 2, 1) := by decide +kernel
theorem dX3_passOn_41 : decode cX3_passOn 41 = .ok (.invokevirtual 77, 3) := by decide +kernel
theorem dX3_passOn_44 : decode cX3_passOn 44 = .ok (.ireturn, 1) := by decide +kernel
theorem dX3_passOn_45 : decode cX3_passOn 45 = .ok (.iload_n 2, 1) := by decide +kernel
theorem dX3_passOn_46 : decode cX3_passOn 46 = .ok (.invokestatic 73, 3) := by decide +kernel
theorem dX3_passOn_49 : decode cX3_passOn 49 = .ok (.ifCond .eq 26, 3) := by decide +kernel
theorem dX3_passOn_52 : decode cX3_passOn 52 = .ok (.iload_n 3, 1) := by decide +kernel
theorem dX3_passOn_53 : decode cX3_passOn 53 = .ok (.iconst 1, 1) := by decide +kernel
theorem dX3_passOn_54 : decode cX3_passOn 54 = .ok (.aload_n 0, 1) := by decide +kernel
theorem dX3_passOn_55 : decode cX3_passOn 55 = .ok (.iload_n 1, 1) := by decide +kernel
theorem dX3_passOn_56 : decode cX3_passOn 56 = .ok (.invokevirtual 92, 3) := by decide +kernel
theorem dX3_passOn_59 : decode cX3_passOn 59 = .ok (.invokestatic 63, 3) := by decide +kernel
theorem dX3_passOn_62 : decode cX3_passOn 62 = .ok (.ifCond .eq 13, 3) := by decide +kernel
theorem dX3_passOn_65 : decode cX3_passOn 65 = .ok (.iload_n 2, 1) := by decide +kernel
theorem dX3_passOn_66 : decode cX3_passOn 66 = .ok (.aload_n 0, 1) := by decide +kernel
theorem dX3_passOn_67 : decode cX3_passOn 67 = .ok (.getfield 13, 3) := by decide +kernel
theorem dX3_passOn_70 : decode cX3_passOn 70 = .ok (.iload_n 1, 1) := by decide +kernel
theorem dX3_passOn_71 : decode cX3_passOn 71 = .ok (.iaload, 1) := by decide +kernel
theorem dX3_passOn_72 : decode cX3_passOn 72 = .ok (.if_icmp .ne 9, 3) := by decide +kernel
theorem dX3_passOn_75 : decode cX3_passOn 75 = .ok (.aload_n 0, 1) := by decide +kernel
theorem dX3_passOn_76 : decode cX3_passOn 76 = .ok (.iconst 3, 1) := by decide +kernel
theorem dX3_passOn_77 : decode cX3_passOn 77 = .ok (.invokevirtual 77, 3) := by decide +kernel
theorem dX3_passOn_80 : decode cX3_passOn 80 = .ok (.ireturn, 1) := by decide +kernel
theorem dX3_passOn_81 : decode cX3_passOn 81 = .ok (.aload_n 0, 1) := by decide +kernel
theorem dX3_passOn_82 : decode cX3_passOn 82 = .ok (.getfield 16, 3) := by decide +kernel
theorem dX3_passOn_85 : decode cX3_passOn 85 = .ok (.iload_n 1, 1) := by decide +kernel
theorem dX3_passOn_86 : decode cX3_passOn 86 = .ok (.iload_n 2, 1) := by decide +kernel
theorem dX3_passOn_87 : decode cX3_passOn 87 = .ok (.iastore, 1) := by decide +kernel
theorem dX3_passOn_88 : decode cX3_passOn 88 = .ok (.aload_n 0, 1) := by decide +kernel
theorem dX3_passOn_89 : decode cX3_passOn 89 = .ok (.getfield 19, 3) := by decide +kernel
theorem dX3_passOn_92 : decode cX3_passOn 92 = .ok (.iload_n 1, 1) := by decide +kernel
theorem dX3_passOn_93 : decode cX3_passOn 93 = .ok (.iload_n 3, 1) := by decide +kernel
theorem dX3_passOn_94 : decode cX3_passOn 94 = .ok (.iastore, 1) := by decide +kernel
theorem dX3_passOn_95 : decode cX3_passOn 95 = .ok (.aload_n 0, 1) := by decide +kernel
theorem dX3_passOn_96 : decode cX3_passOn 96 = .ok (.getfield 13, 3) := by decide +kernel
theorem dX3_passOn_99 : decode cX3_passOn 99 = .ok (.iload_n 1, 1) := by decide +kernel
theorem dX3_passOn_100 : decode cX3_passOn 100 = .ok (.iaload, 1) := by decide +kernel
theorem dX3_passOn_101 : decode cX3_passOn 101 = .ok (.ireturn, 1) := by decide +kernel
set_option maxRecDepth 20000 in
theorem ggX3_turnoverOf_X3_price : GoodIn wsX3_turnoverOf wsX3_price := goodIn_r _ [10, 11, 3, 12, 13, 14, 15, 16, 17, 18, 19, 20, 21, 22, 23, 24, 25, 26, 27, 28, 29, 30] (by decide +kernel) (by decide +kernel)
set_option maxRecDepth 20000 in
theorem gX3_turnoverOf_X3_price : GoodIn wsX3_turnoverOf (wsV RX3 92 RX3 yX3_price wsX3_price) := goodIn_app (goodIn_of _ (by decide +kernel)) ggX3_turnoverOf_X3_price
theorem dX3_turnoverOf_0 : decode cX3_turnoverOf 0 = .ok (.iconst 0, 1) := by decide +kernel
theorem dX3_turnoverOf_1 : decode cX3_turnoverOf 1 = .ok (.istore_n 2, 1) := by decide +kernel
theorem dX3_turnoverOf_2 : decode cX3_turnoverOf 2 = .ok (.iconst 0, 1) := by decide +kernel
theorem dX3_turnoverOf_3 : decode cX3_turnoverOf 3 = .ok (.istore_n 3, 1) := by decide +kernel
theorem dX3_turnoverOf_4 : decode cX3_turnoverOf 4 = .ok (.iload_n 3, 1) := by decide +kernel
theorem dX3_turnoverOf_5 : decode cX3_turnoverOf 5 = .ok (.aload_n 0, 1) := by decide +kernel
theorem dX3_turnoverOf_6 : decode cX3_turnoverOf 6 = .ok (.getfield 67, 3) := by decide +kernel
theorem dX3_turnoverOf_9 : decode cX3_turnoverOf 9 = .ok (.if_icmp .ge 71, 3) := by decide +kernel
theorem dX3_turnoverOf_12 : decode cX3_turnoverOf 12 = .ok (.aload_n 0, 1) := by decide +kernel
theorem dX3_turnoverOf_13 : decode cX3_turnoverOf 13 = .ok (.getfield 7, 3) := by decide +kernel
theorem dX3_turnoverOf_16 : decode cX3_turnoverOf 16 = .ok (.iload_n 3, 1) := by decide +kernel
theorem dX3_turnoverOf_17 : decode cX3_turnoverOf 17 = .ok (.iaload, 1) := by decide +kernel
theorem dX3_turnoverOf_18 : decode cX3_turnoverOf 18 = .ok (.iconst 1, 1) := by decide +kernel
theorem dX3_turnoverOf_19 : decode cX3_turnoverOf 19 = .ok (.if_icmp .ne 55, 3) := by decide +kernel
theorem dX3_turnoverOf_22 : decode cX3_turnoverOf 22 = .ok (.iload_n 2, 1) := by decide +kernel
theorem dX3_turnoverOf_23 : decode cX3_turnoverOf 23 = .ok (.aload_n 0, 1) := by decide +kernel
theorem dX3_turnoverOf_24 : decode cX3_turnoverOf 24 = .ok (.getfield 13, 3) := by decide +kernel
theorem dX3_turnoverOf_27 : decode cX3_turnoverOf 27 = .ok (.iload_n 3, 1) := by decide +kernel
theorem dX3_turnoverOf_28 : decode cX3_turnoverOf 28 = .ok (.iaload, 1) := by decide +kernel
theorem dX3_turnoverOf_29 : decode cX3_turnoverOf 29 = .ok (.iload_n 1, 1) := by decide +kernel
theorem dX3_turnoverOf_30 : decode cX3_turnoverOf 30 = .ok (.if_icmp .ne 18, 3) := by decide +kernel
theorem dX3_turnoverOf_33 : decode cX3_turnoverOf 33 = .ok (.aload_n 0, 1) := by decide +kernel
theorem dX3_turnoverOf_34 : decode cX3_turnoverOf 34 = .ok (.iload_n 3, 1) := by decide +kernel
theorem dX3_turnoverOf_35 : decode cX3_turnoverOf 35 = .ok (.invokevirtual 92, 3) := by decide +kernel
theorem dX3_turnoverOf_38 : decode cX3_turnoverOf 38 = .ok (.aload_n 0, 1) := by decide +kernel
theorem dX3_turnoverOf_39 : decode cX3_turnoverOf 39 = .ok (.getfield 19, 3) := by decide +kernel
theorem dX3_turnoverOf_42 : decode cX3_turnoverOf 42 = .ok (.iload_n 3, 1) := by decide +kernel
theorem dX3_turnoverOf_43 : decode cX3_turnoverOf 43 = .ok (.iaload, 1) := by decide +kernel
theorem dX3_turnoverOf_44 : decode cX3_turnoverOf 44 = .ok (.isub, 1) := by decide +kernel
theorem dX3_turnoverOf_45 : decode cX3_turnoverOf 45 = .ok (.goto 4, 3) := by decide +kernel
theorem dX3_turnoverOf_48 : decode cX3_turnoverOf 48 = .ok (.iconst 0, 1) := by decide +kernel
theorem dX3_turnoverOf_49 : decode cX3_turnoverOf 49 = .ok (.iadd, 1) := by decide +kernel
theorem dX3_turnoverOf_50 : decode cX3_turnoverOf 50 = .ok (.istore_n 2, 1) := by decide +kernel
theorem dX3_turnoverOf_51 : decode cX3_turnoverOf 51 = .ok (.iload_n 2, 1) := by decide +kernel
theorem dX3_turnoverOf_52 : decode cX3_turnoverOf 52 = .ok (.aload_n 0, 1) := by decide +kernel
theorem dX3_turnoverOf_53 : decode cX3_turnoverOf 53 = .ok (.getfield 16, 3) := by decide +kernel
theorem dX3_turnoverOf_56 : decode cX3_turnoverOf 56 = .ok (.iload_n 3, 1) := by decide +kernel
theorem dX3_turnoverOf_57 : decode cX3_turnoverOf 57 = .ok (.iaload, 1) := by decide +kernel
theorem dX3_turnoverOf_58 : decode cX3_turnoverOf 58 = .ok (.iload_n 1, 1) := by decide +kernel
theorem dX3_turnoverOf_59 : decode cX3_turnoverOf 59 = .ok (.if_icmp .ne 12, 3) := by decide +kernel
theorem dX3_turnoverOf_62 : decode cX3_turnoverOf 62 = .ok (.aload_n 0, 1) := by decide +kernel
theorem dX3_turnoverOf_63 : decode cX3_turnoverOf 63 = .ok (.getfield 19, 3) := by decide +kernel
theorem dX3_turnoverOf_66 : decode cX3_turnoverOf 66 = .ok (.iload_n 3, 1) := by decide +kernel
theorem dX3_turnoverOf_67 : decode cX3_turnoverOf 67 = .ok (.iaload, 1) := by decide +kernel
theorem dX3_turnoverOf_68 : decode cX3_turnoverOf 68 = .ok (.goto 4, 3) := by decide +kernel
theorem dX3_turnoverOf_71 : decode cX3_turnoverOf 71 = .ok (.iconst 0, 1) := by decide +kernel
theorem dX3_turnoverOf_72 : decode cX3_turnoverOf 72 = .ok (.iadd, 1) := by decide +kernel
theorem dX3_turnoverOf_73 : decode cX3_turnoverOf 73 = .ok (.istore_n 2, 1) := by decide +kernel
theorem dX3_turnoverOf_74 : decode cX3_turnoverOf 74 = .ok (.iinc 3 1, 3) := by decide +kernel
theorem dX3_turnoverOf_77 : decode cX3_turnoverOf 77 = .ok (.goto (-73), 3) := by decide +kernel
theorem dX3_turnoverOf_80 : decode cX3_turnoverOf 80 = .ok (.iload_n 2, 1) := by decide +kernel
theorem dX3_turnoverOf_81 : decode cX3_turnoverOf 81 = .ok (.ireturn, 1) := by decide +kernel
set_option maxRecDepth 20000 in
theorem ggX3_turnover_X3_isBidder : GoodIn wsX3_turnover wsX3_isBidder := goodIn_r _ [5, 6, 7, 4, 8] (by decide +kernel) (by decide +kernel)
set_option maxRecDepth 20000 in
theorem gX3_turnover_X3_isBidder : GoodIn wsX3_turnover (va_wsS RX3 73 yX3_isBidder wsX3_isBidder) := goodIn_app (goodIn_of _ (by decide +kernel)) ggX3_turnover_X3_isBidder
set_option maxRecDepth 20000 in
theorem ggX3_turnover_X3_turnoverOf : GoodIn wsX3_turnover wsX3_turnoverOf := goodIn_r _ [12, 13, 14, 15, 16, 17, 18, 19, 20, 4, 21, 22, 27, 28, 29, 30, 31, 32, 33, 34, 35, 36, 37, 38, 39, 40, 41, 42, 43, 44, 45] (by decide +kernel) (by decide +kernel)
set_option maxRecDepth 20000 in
theorem gX3_turnover_X3_turnoverOf : GoodIn wsX3_turnover (wsV RX3 95 RX3 yX3_turnoverOf wsX3_turnoverOf) := goodIn_app (goodIn_of _ (by decide +kernel)) ggX3_turnover_X3_turnoverOf
set_option maxRecDepth 20000 in
theorem ggX3_turnover_X3_fails : GoodIn wsX3_turnover wsX3_fails := goodIn_r _ [26, 1, 27, 28, 29, 30, 31, 32, 33, 34, 35, 36, 37, 38, 39, 40, 41, 42, 43, 44, 45] (by decide +kernel) (by decide +kernel)
set_option maxRecDepth 20000 in
theorem gX3_turnover_X3_fails : GoodIn wsX3_turnover (wsV RX3 77 RX3 yX3_fails wsX3_fails) := goodIn_app (goodIn_of _ (by decide +kernel)) ggX3_turnover_X3_fails
theorem dX3_turnover_0 : decode cX3_turnover 0 = .ok (.aload_n 0, 1) := by decide +kernel
theorem dX3_turnover_1 : decode cX3_turnover 1 = .ok (.iconst 0, 1) := by decide +kernel
