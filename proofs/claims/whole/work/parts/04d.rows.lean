theorem dX3_turnover_2 : decode cX3_turnover 2 = .ok (.putfield 60, 3) := by decide +kernel
theorem dX3_turnover_5 : decode cX3_turnover 5 = .ok (.iload_n 1, 1) := by decide +kernel
theorem dX3_turnover_6 : decode cX3_turnover 6 = .ok (.invokestatic 73, 3) := by decide +kernel
theorem dX3_turnover_9 : decode cX3_turnover 9 = .ok (.ifCond .eq 11, 3) := by decide +kernel
theorem dX3_turnover_12 : decode cX3_turnover 12 = .ok (.aload_n 0, 1) := by decide +kernel
theorem dX3_turnover_13 : decode cX3_turnover 13 = .ok (.iload_n 1, 1) := by decide +kernel
theorem dX3_turnover_14 : decode cX3_turnover 14 = .ok (.invokevirtual 95, 3) := by decide +kernel
theorem dX3_turnover_17 : decode cX3_turnover 17 = .ok (.goto 8, 3) := by decide +kernel
theorem dX3_turnover_20 : decode cX3_turnover 20 = .ok (.aload_n 0, 1) := by decide +kernel
theorem dX3_turnover_21 : decode cX3_turnover 21 = .ok (.iconst 1, 1) := by decide +kernel
theorem dX3_turnover_22 : decode cX3_turnover 22 = .ok (.invokevirtual 77, 3) := by decide +kernel
theorem dX3_turnover_25 : decode cX3_turnover 25 = .ok (.ireturn, 1) := by decide +kernel
set_option maxRecDepth 20000 in
theorem ggX3_won_X3_isBidder : GoodIn wsX3_won wsX3_isBidder := goodIn_r _ [8, 9, 10, 7, 11] (by decide +kernel) (by decide +kernel)
set_option maxRecDepth 20000 in
theorem gX3_won_X3_isBidder : GoodIn wsX3_won (va_wsS RX3 73 yX3_isBidder wsX3_isBidder) := goodIn_app (goodIn_of _ (by decide +kernel)) ggX3_won_X3_isBidder
set_option maxRecDepth 20000 in
theorem ggX3_won_X3_fails : GoodIn wsX3_won wsX3_fails := goodIn_r _ [15, 1, 16, 17, 18, 19, 20, 21, 22, 23, 24, 25, 26, 27, 28, 29, 30, 31, 32, 33, 34] (by decide +kernel) (by decide +kernel)
set_option maxRecDepth 20000 in
theorem gX3_won_X3_fails : GoodIn wsX3_won (wsV RX3 77 RX3 yX3_fails wsX3_fails) := goodIn_app (goodIn_of _ (by decide +kernel)) ggX3_won_X3_fails
theorem dX3_won_0 : decode cX3_won 0 = .ok (.aload_n 0, 1) := by decide +kernel
theorem dX3_won_1 : decode cX3_won 1 = .ok (.iconst 0, 1) := by decide +kernel
theorem dX3_won_2 : decode cX3_won 2 = .ok (.putfield 60, 3) := by decide +kernel
theorem dX3_won_5 : decode cX3_won 5 = .ok (.iload_n 1, 1) := by decide +kernel
theorem dX3_won_6 : decode cX3_won 6 = .ok (.invokestatic 73, 3) := by decide +kernel
theorem dX3_won_9 : decode cX3_won 9 = .ok (.ifCond .ne 9, 3) := by decide +kernel
theorem dX3_won_12 : decode cX3_won 12 = .ok (.aload_n 0, 1) := by decide +kernel
theorem dX3_won_13 : decode cX3_won 13 = .ok (.iconst 1, 1) := by decide +kernel
theorem dX3_won_14 : decode cX3_won 14 = .ok (.invokevirtual 77, 3) := by decide +kernel
theorem dX3_won_17 : decode cX3_won 17 = .ok (.ireturn, 1) := by decide +kernel
theorem dX3_won_18 : decode cX3_won 18 = .ok (.iconst 0, 1) := by decide +kernel
theorem dX3_won_19 : decode cX3_won 19 = .ok (.istore_n 2, 1) := by decide +kernel
theorem dX3_won_20 : decode cX3_won 20 = .ok (.iconst 0, 1) := by decide +kernel
theorem dX3_won_21 : decode cX3_won 21 = .ok (.istore_n 3, 1) := by decide +kernel
theorem dX3_won_22 : decode cX3_won 22 = .ok (.iload_n 3, 1) := by decide +kernel
theorem dX3_won_23 : decode cX3_won 23 = .ok (.aload_n 0, 1) := by decide +kernel
theorem dX3_won_24 : decode cX3_won 24 = .ok (.getfield 67, 3) := by decide +kernel
theorem dX3_won_27 : decode cX3_won 27 = .ok (.if_icmp .ge 37, 3) := by decide +kernel
theorem dX3_won_30 : decode cX3_won 30 = .ok (.iload_n 2, 1) := by decide +kernel
theorem dX3_won_31 : decode cX3_won 31 = .ok (.aload_n 0, 1) := by decide +kernel
theorem dX3_won_32 : decode cX3_won 32 = .ok (.getfield 7, 3) := by decide +kernel
theorem dX3_won_35 : decode cX3_won 35 = .ok (.iload_n 3, 1) := by decide +kernel
theorem dX3_won_36 : decode cX3_won 36 = .ok (.iaload, 1) := by decide +kernel
theorem dX3_won_37 : decode cX3_won 37 = .ok (.iconst 1, 1) := by decide +kernel
theorem dX3_won_38 : decode cX3_won 38 = .ok (.if_icmp .ne 17, 3) := by decide +kernel
theorem dX3_won_41 : decode cX3_won 41 = .ok (.aload_n 0, 1) := by decide +kernel
theorem dX3_won_42 : decode cX3_won 42 = .ok (.getfield 13, 3) := by decide +kernel
theorem dX3_won_45 : decode cX3_won 45 = .ok (.iload_n 3, 1) := by decide +kernel
theorem dX3_won_46 : decode cX3_won 46 = .ok (.iaload, 1) := by decide +kernel
theorem dX3_won_47 : decode cX3_won 47 = .ok (.iload_n 1, 1) := by decide +kernel
theorem dX3_won_48 : decode cX3_won 48 = .ok (.if_icmp .ne 7, 3) := by decide +kernel
theorem dX3_won_51 : decode cX3_won 51 = .ok (.iconst 1, 1) := by decide +kernel
theorem dX3_won_52 : decode cX3_won 52 = .ok (.goto 4, 3) := by decide +kernel
theorem dX3_won_55 : decode cX3_won 55 = .ok (.iconst 0, 1) := by decide +kernel
theorem dX3_won_56 : decode cX3_won 56 = .ok (.iadd, 1) := by decide +kernel
theorem dX3_won_57 : decode cX3_won 57 = .ok (.istore_n 2, 1) := by decide +kernel
theorem dX3_won_58 : decode cX3_won 58 = .ok (.iinc 3 1, 3) := by decide +kernel
theorem dX3_won_61 : decode cX3_won 61 = .ok (.goto (-39), 3) := by decide +kernel
theorem dX3_won_64 : decode cX3_won 64 = .ok (.iload_n 2, 1) := by decide +kernel
theorem dX3_won_65 : decode cX3_won 65 = .ok (.ireturn, 1) := by decide +kernel
set_option maxRecDepth 20000 in
theorem ggX3_isTurn_X3_stands : GoodIn wsX3_isTurn wsX3_stands := goodIn_r _ [7, 8, 9, 10, 11, 12, 13, 14, 15, 16, 17, 18, 19, 20, 21, 22, 23, 24, 25, 26, 27, 28] (by decide +kernel) (by decide +kernel)
set_option maxRecDepth 20000 in
theorem gX3_isTurn_X3_stands : GoodIn wsX3_isTurn (wsV RX3 81 RX3 yX3_stands wsX3_stands) := goodIn_app (goodIn_of _ (by decide +kernel)) ggX3_isTurn_X3_stands
theorem dX3_isTurn_0 : decode cX3_isTurn 0 = .ok (.iconst (-1), 1) := by decide +kernel
theorem dX3_isTurn_1 : decode cX3_isTurn 1 = .ok (.istore 4, 2) := by decide +kernel
theorem dX3_isTurn_3 : decode cX3_isTurn 3 = .ok (.iconst 0, 1) := by decide +kernel
theorem dX3_isTurn_4 : decode cX3_isTurn 4 = .ok (.istore 5, 2) := by decide +kernel
theorem dX3_isTurn_6 : decode cX3_isTurn 6 = .ok (.iload 5, 2) := by decide +kernel
theorem dX3_isTurn_8 : decode cX3_isTurn 8 = .ok (.iload_n 1, 1) := by decide +kernel
theorem dX3_isTurn_9 : decode cX3_isTurn 9 = .ok (.if_icmp .ge 49, 3) := by decide +kernel
theorem dX3_isTurn_12 : decode cX3_isTurn 12 = .ok (.aload_n 0, 1) := by decide +kernel
theorem dX3_isTurn_13 : decode cX3_isTurn 13 = .ok (.getfield 7, 3) := by decide +kernel
theorem dX3_isTurn_16 : decode cX3_isTurn 16 = .ok (.iload 5, 2) := by decide +kernel
theorem dX3_isTurn_18 : decode cX3_isTurn 18 = .ok (.iaload, 1) := by decide +kernel
theorem dX3_isTurn_19 : decode cX3_isTurn 19 = .ok (.iconst 1, 1) := by decide +kernel
theorem dX3_isTurn_20 : decode cX3_isTurn 20 = .ok (.if_icmp .ne 28, 3) := by decide +kernel
theorem dX3_isTurn_23 : decode cX3_isTurn 23 = .ok (.aload_n 0, 1) := by decide +kernel
theorem dX3_isTurn_24 : decode cX3_isTurn 24 = .ok (.iload 5, 2) := by decide +kernel
theorem dX3_isTurn_26 : decode cX3_isTurn 26 = .ok (.iload_n 2, 1) := by decide +kernel
theorem dX3_isTurn_27 : decode cX3_isTurn 27 = .ok (.invokevirtual 81, 3) := by decide +kernel
theorem dX3_isTurn_30 : decode cX3_isTurn 30 = .ok (.ifCond .eq 18, 3) := by decide +kernel
theorem dX3_isTurn_33 : decode cX3_isTurn 33 = .ok (.aload_n 0, 1) := by decide +kernel
theorem dX3_isTurn_34 : decode cX3_isTurn 34 = .ok (.iload 5, 2) := by decide +kernel
theorem dX3_isTurn_36 : decode cX3_isTurn 36 = .ok (.iload_n 3, 1) := by decide +kernel
theorem dX3_isTurn_37 : decode cX3_isTurn 37 = .ok (.invokevirtual 81, 3) := by decide +kernel
theorem dX3_isTurn_40 : decode cX3_isTurn 40 = .ok (.ifCond .eq 8, 3) := by decide +kernel
theorem dX3_isTurn_43 : decode cX3_isTurn 43 = .ok (.iload 5, 2) := by decide +kernel
theorem dX3_isTurn_45 : decode cX3_isTurn 45 = .ok (.goto 5, 3) := by decide +kernel
theorem dX3_isTurn_48 : decode cX3_isTurn 48 = .ok (.iload 4, 2) := by decide +kernel
theorem dX3_isTurn_50 : decode cX3_isTurn 50 = .ok (.istore 4, 2) := by decide +kernel
theorem dX3_isTurn_52 : decode cX3_isTurn 52 = .ok (.iinc 5 1, 3) := by decide +kernel
theorem dX3_isTurn_55 : decode cX3_isTurn 55 = .ok (.goto (-49), 3) := by decide +kernel
theorem dX3_isTurn_58 : decode cX3_isTurn 58 = .ok (.iload 4, 2) := by decide +kernel
theorem dX3_isTurn_60 : decode cX3_isTurn 60 = .ok (.iconst (-1), 1) := by decide +kernel
theorem dX3_isTurn_61 : decode cX3_isTurn 61 = .ok (.if_icmp .eq 18, 3) := by decide +kernel
theorem dX3_isTurn_64 : decode cX3_isTurn 64 = .ok (.aload_n 0, 1) := by decide +kernel
theorem dX3_isTurn_65 : decode cX3_isTurn 65 = .ok (.getfield 13, 3) := by decide +kernel
theorem dX3_isTurn_68 : decode cX3_isTurn 68 = .ok (.iload 4, 2) := by decide +kernel
theorem dX3_isTurn_70 : decode cX3_isTurn 70 = .ok (.iaload, 1) := by decide +kernel
theorem dX3_isTurn_71 : decode cX3_isTurn 71 = .ok (.iload_n 3, 1) := by decide +kernel
theorem dX3_isTurn_72 : decode cX3_isTurn 72 = .ok (.if_icmp .ne 7, 3) := by decide +kernel
theorem dX3_isTurn_75 : decode cX3_isTurn 75 = .ok (.iconst 1, 1) := by decide +kernel
theorem dX3_isTurn_76 : decode cX3_isTurn 76 = .ok (.goto 4, 3) := by decide +kernel
theorem dX3_isTurn_79 : decode cX3_isTurn 79 = .ok (.iconst 0, 1) := by decide +kernel
theorem dX3_isTurn_80 : decode cX3_isTurn 80 = .ok (.ireturn, 1) := by decide +kernel
set_option maxRecDepth 20000 in
theorem ggX3_signOf_X3_price : GoodIn wsX3_signOf wsX3_price := goodIn_r _ [10, 3, 2, 19, 20, 21, 22, 23, 24, 25, 26, 27, 28, 29, 30, 31, 32, 33, 34, 35, 36, 37] (by decide +kernel) (by decide +kernel)
set_option maxRecDepth 20000 in
theorem gX3_signOf_X3_price : GoodIn wsX3_signOf (wsV RX3 92 RX3 yX3_price wsX3_price) := goodIn_app (goodIn_of _ (by decide +kernel)) ggX3_signOf_X3_price
set_option maxRecDepth 20000 in
theorem ggX3_signOf_X3_stands : GoodIn wsX3_signOf wsX3_stands := goodIn_r _ [14, 3, 5, 19, 20, 21, 22, 23, 24, 25, 26, 27, 28, 29, 30, 31, 32, 33, 34, 35, 36, 37] (by decide +kernel) (by decide +kernel)
set_option maxRecDepth 20000 in
theorem gX3_signOf_X3_stands : GoodIn wsX3_signOf (wsV RX3 81 RX3 yX3_stands wsX3_stands) := goodIn_app (goodIn_of _ (by decide +kernel)) ggX3_signOf_X3_stands
set_option maxRecDepth 20000 in
theorem ggX3_signOf_X3_isTurn : GoodIn wsX3_signOf wsX3_isTurn := goodIn_r _ [18, 1, 2, 11, 12, 13, 9, 14, 3, 5, 19, 20, 21, 22, 23, 24, 25, 26, 27, 28, 29, 30, 31, 32, 33, 34, 35, 36, 37] (by decide +kernel) (by decide +kernel)
set_option maxRecDepth 20000 in
theorem gX3_signOf_X3_isTurn : GoodIn wsX3_signOf (wsV RX3 98 RX3 yX3_isTurn wsX3_isTurn) := goodIn_app (goodIn_of _ (by decide +kernel)) ggX3_signOf_X3_isTurn
theorem dX3_signOf_0 : decode cX3_signOf 0 = .ok (.aload_n 0, 1) := by decide +kernel
theorem dX3_signOf_1 : decode cX3_signOf 1 = .ok (.getfield 7, 3) := by decide +kernel
theorem dX3_signOf_4 : decode cX3_signOf 4 = .ok (.iload_n 1, 1) := by decide +kernel
theorem dX3_signOf_5 : decode cX3_signOf 5 = .ok (.iaload, 1) := by decide +kernel
theorem dX3_signOf_6 : decode cX3_signOf 6 = .ok (.iconst 1, 1) := by decide +kernel
theorem dX3_signOf_7 : decode cX3_signOf 7 = .ok (.if_icmp .ne 23, 3) := by decide +kernel
theorem dX3_signOf_10 : decode cX3_signOf 10 = .ok (.aload_n 0, 1) := by decide +kernel
theorem dX3_signOf_11 : decode cX3_signOf 11 = .ok (.getfield 13, 3) := by decide +kernel
theorem dX3_signOf_14 : decode cX3_signOf 14 = .ok (.iload_n 1, 1) := by decide +kernel
theorem dX3_signOf_15 : decode cX3_signOf 15 = .ok (.iaload, 1) := by decide +kernel
theorem dX3_signOf_16 : decode cX3_signOf 16 = .ok (.iload_n 2, 1) := by decide +kernel
theorem dX3_signOf_17 : decode cX3_signOf 17 = .ok (.if_icmp .eq 15, 3) := by decide +kernel
theorem dX3_signOf_20 : decode cX3_signOf 20 = .ok (.aload_n 0, 1) := by decide +kernel
theorem dX3_signOf_21 : decode cX3_signOf 21 = .ok (.getfield 13, 3) := by decide +kernel
theorem dX3_signOf_24 : decode cX3_signOf 24 = .ok (.iload_n 1, 1) := by decide +kernel
theorem dX3_signOf_25 : decode cX3_signOf 25 = .ok (.iaload, 1) := by decide +kernel
theorem dX3_signOf_26 : decode cX3_signOf 26 = .ok (.iload_n 3, 1) := by decide +kernel
theorem dX3_signOf_27 : decode cX3_signOf 27 = .ok (.if_icmp .eq 5, 3) := by decide +kernel
theorem dX3_signOf_30 : decode cX3_signOf 30 = .ok (.iconst 0, 1) := by decide +kernel
theorem dX3_signOf_31 : decode cX3_signOf 31 = .ok (.ireturn, 1) := by decide +kernel
theorem dX3_signOf_32 : decode cX3_signOf 32 = .ok (.aload_n 0, 1) := by decide +kernel
theorem dX3_signOf_33 : decode cX3_signOf 33 = .ok (.getfield 13, 3) := by decide +kernel
theorem dX3_signOf_36 : decode cX3_signOf 36 = .ok (.iload_n 1, 1) := by decide +kernel
theorem dX3_signOf_37 : decode cX3_signOf 37 = .ok (.iaload, 1) := by decide +kernel
theorem dX3_signOf_38 : decode cX3_signOf 38 = .ok (.istore 4, 2) := by decide +kernel
theorem dX3_signOf_40 : decode cX3_signOf 40 = .ok (.iload 4, 2) := by decide +kernel
theorem dX3_signOf_42 : decode cX3_signOf 42 = .ok (.iload_n 2, 1) := by decide +kernel
theorem dX3_signOf_43 : decode cX3_signOf 43 = .ok (.if_icmp .ne 7, 3) := by decide +kernel
theorem dX3_signOf_46 : decode cX3_signOf 46 = .ok (.iload_n 3, 1) := by decide +kernel
theorem dX3_signOf_47 : decode cX3_signOf 47 = .ok (.goto 4, 3) := by decide +kernel
theorem dX3_signOf_50 : decode cX3_signOf 50 = .ok (.iload_n 2, 1) := by decide +kernel
theorem dX3_signOf_51 : decode cX3_signOf 51 = .ok (.istore 5, 2) := by decide +kernel
theorem dX3_signOf_53 : decode cX3_signOf 53 = .ok (.bipush 7, 2) := by decide +kernel
theorem dX3_signOf_55 : decode cX3_signOf 55 = .ok (.iload_n 1, 1) := by decide +kernel
theorem dX3_signOf_56 : decode cX3_signOf 56 = .ok (.imul, 1) := by decide +kernel
theorem dX3_signOf_57 : decode cX3_signOf 57 = .ok (.iload 5, 2) := by decide +kernel
theorem dX3_signOf_59 : decode cX3_signOf 59 = .ok (.iadd, 1) := by decide +kernel
theorem dX3_signOf_60 : decode cX3_signOf 60 = .ok (.istore 6, 2) := by decide +kernel
theorem dX3_signOf_62 : decode cX3_signOf 62 = .ok (.aload_n 0, 1) := by decide +kernel
theorem dX3_signOf_63 : decode cX3_signOf 63 = .ok (.getfield 22, 3) := by decide +kernel
theorem dX3_signOf_66 : decode cX3_signOf 66 = .ok (.iload 6, 2) := by decide +kernel
theorem dX3_signOf_68 : decode cX3_signOf 68 = .ok (.iaload, 1) := by decide +kernel
theorem dX3_signOf_69 : decode cX3_signOf 69 = .ok (.aload_n 0, 1) := by decide +kernel
theorem dX3_signOf_70 : decode cX3_signOf 70 = .ok (.iload_n 1, 1) := by decide +kernel
theorem dX3_signOf_71 : decode cX3_signOf 71 = .ok (.invokevirtual 92, 3) := by decide +kernel
theorem dX3_signOf_74 : decode cX3_signOf 74 = .ok (.isub, 1) := by decide +kernel
theorem dX3_signOf_75 : decode cX3_signOf 75 = .ok (.istore 7, 2) := by decide +kernel
theorem dX3_signOf_77 : decode cX3_signOf 77 = .ok (.aload_n 0, 1) := by decide +kernel
theorem dX3_signOf_78 : decode cX3_signOf 78 = .ok (.iload_n 1, 1) := by decide +kernel
theorem dX3_signOf_79 : decode cX3_signOf 79 = .ok (.iload 5, 2) := by decide +kernel
theorem dX3_signOf_81 : decode cX3_signOf 81 = .ok (.invokevirtual 81, 3) := by decide +kernel
theorem dX3_signOf_84 : decode cX3_signOf 84 = .ok (.istore 8, 2) := by decide +kernel
theorem dX3_signOf_86 : decode cX3_signOf 86 = .ok (.iload 8, 2) := by decide +kernel
theorem dX3_signOf_88 : decode cX3_signOf 88 = .ok (.ifCond .eq 27, 3) := by decide +kernel
theorem dX3_signOf_91 : decode cX3_signOf 91 = .ok (.iload 7, 2) := by decide +kernel
theorem dX3_signOf_93 : decode cX3_signOf 93 = .ok (.ifCond .le 22, 3) := by decide +kernel
theorem dX3_signOf_96 : decode cX3_signOf 96 = .ok (.iload 7, 2) := by decide +kernel
theorem dX3_signOf_98 : decode cX3_signOf 98 = .ok (.aload_n 0, 1) := by decide +kernel
theorem dX3_signOf_99 : decode cX3_signOf 99 = .ok (.iload_n 1, 1) := by decide +kernel
theorem dX3_signOf_100 : decode cX3_signOf 100 = .ok (.invokevirtual 92, 3) := by decide +kernel
theorem dX3_signOf_103 : decode cX3_signOf 103 = .ok (.iconst 5, 1) := by decide +kernel
theorem dX3_signOf_104 : decode cX3_signOf 104 = .ok (.imul, 1) := by decide +kernel
theorem dX3_signOf_105 : decode cX3_signOf 105 = .ok (.bipush 100, 2) := by decide +kernel
theorem dX3_signOf_107 : decode cX3_signOf 107 = .ok (.idiv, 1) := by decide +kernel
theorem dX3_signOf_108 : decode cX3_signOf 108 = .ok (.if_icmp .gt 7, 3) := by decide +kernel
theorem dX3_signOf_111 : decode cX3_signOf 111 = .ok (.iconst 2, 1) := by decide +kernel
theorem dX3_signOf_112 : decode cX3_signOf 112 = .ok (.goto 4, 3) := by decide +kernel
theorem dX3_signOf_115 : decode cX3_signOf 115 = .ok (.iconst 0, 1) := by decide +kernel
theorem dX3_signOf_116 : decode cX3_signOf 116 = .ok (.istore 9, 2) := by decide +kernel
theorem dX3_signOf_118 : decode cX3_signOf 118 = .ok (.iload 9, 2) := by decide +kernel
theorem dX3_signOf_120 : decode cX3_signOf 120 = .ok (.aload_n 0, 1) := by decide +kernel
theorem dX3_signOf_121 : decode cX3_signOf 121 = .ok (.getfield 16, 3) := by decide +kernel
theorem dX3_signOf_124 : decode cX3_signOf 124 = .ok (.iload_n 1, 1) := by decide +kernel
theorem dX3_signOf_125 : decode cX3_signOf 125 = .ok (.iaload, 1) := by decide +kernel
theorem dX3_signOf_126 : decode cX3_signOf 126 = .ok (.iload 5, 2) := by decide +kernel
theorem dX3_signOf_128 : decode cX3_signOf 128 = .ok (.if_icmp .ne 17, 3) := by decide +kernel
theorem dX3_signOf_131 : decode cX3_signOf 131 = .ok (.aload_n 0, 1) := by decide +kernel
theorem dX3_signOf_132 : decode cX3_signOf 132 = .ok (.getfield 22, 3) := by decide +kernel
theorem dX3_signOf_135 : decode cX3_signOf 135 = .ok (.iload 6, 2) := by decide +kernel
theorem dX3_signOf_137 : decode cX3_signOf 137 = .ok (.iaload, 1) := by decide +kernel
theorem dX3_signOf_138 : decode cX3_signOf 138 = .ok (.ifCond .le 7, 3) := by decide +kernel
theorem dX3_signOf_141 : decode cX3_signOf 141 = .ok (.iconst 3, 1) := by decide +kernel
theorem dX3_signOf_142 : decode cX3_signOf 142 = .ok (.goto 4, 3) := by decide +kernel
theorem dX3_signOf_145 : decode cX3_signOf 145 = .ok (.iconst 0, 1) := by decide +kernel
theorem dX3_signOf_146 : decode cX3_signOf 146 = .ok (.iadd, 1) := by decide +kernel
theorem dX3_signOf_147 : decode cX3_signOf 147 = .ok (.istore 9, 2) := by decide +kernel
theorem dX3_signOf_149 : decode cX3_signOf 149 = .ok (.iload 9, 2) := by decide +kernel
theorem dX3_signOf_151 : decode cX3_signOf 151 = .ok (.aload_n 0, 1) := by decide +kernel
theorem dX3_signOf_152 : decode cX3_signOf 152 = .ok (.getfield 25, 3) := by decide +kernel
theorem dX3_signOf_155 : decode cX3_signOf 155 = .ok (.iload 6, 2) := by decide +kernel
theorem dX3_signOf_157 : decode cX3_signOf 157 = .ok (.baload, 1) := by decide +kernel
theorem dX3_signOf_158 : decode cX3_signOf 158 = .ok (.ifCond .eq 7, 3) := by decide +kernel
theorem dX3_signOf_161 : decode cX3_signOf 161 = .ok (.iconst 1, 1) := by decide +kernel
theorem dX3_signOf_162 : decode cX3_signOf 162 = .ok (.goto 4, 3) := by decide +kernel
theorem dX3_signOf_165 : decode cX3_signOf 165 = .ok (.iconst 0, 1) := by decide +kernel
theorem dX3_signOf_166 : decode cX3_signOf 166 = .ok (.iadd, 1) := by decide +kernel
theorem dX3_signOf_167 : decode cX3_signOf 167 = .ok (.istore 9, 2) := by decide +kernel
theorem dX3_signOf_169 : decode cX3_signOf 169 = .ok (.iload 9, 2) := by decide +kernel
theorem dX3_signOf_171 : decode cX3_signOf 171 = .ok (.iload 8, 2) := by decide +kernel
theorem dX3_signOf_173 : decode cX3_signOf 173 = .ok (.ifCond .eq 19, 3) := by decide +kernel
theorem dX3_signOf_176 : decode cX3_signOf 176 = .ok (.aload_n 0, 1) := by decide +kernel
theorem dX3_signOf_177 : decode cX3_signOf 177 = .ok (.iload_n 1, 1) := by decide +kernel
theorem dX3_signOf_178 : decode cX3_signOf 178 = .ok (.iload 4, 2) := by decide +kernel
theorem dX3_signOf_180 : decode cX3_signOf 180 = .ok (.iload 5, 2) := by decide +kernel
theorem dX3_signOf_182 : decode cX3_signOf 182 = .ok (.invokevirtual 98, 3) := by decide +kernel
theorem dX3_signOf_185 : decode cX3_signOf 185 = .ok (.ifCond .eq 7, 3) := by decide +kernel
theorem dX3_signOf_188 : decode cX3_signOf 188 = .ok (.iconst 4, 1) := by decide +kernel
theorem dX3_signOf_189 : decode cX3_signOf 189 = .ok (.goto 4, 3) := by decide +kernel
theorem dX3_signOf_192 : decode cX3_signOf 192 = .ok (.iconst 0, 1) := by decide +kernel
theorem dX3_signOf_193 : decode cX3_signOf 193 = .ok (.iadd, 1) := by decide +kernel
theorem dX3_signOf_194 : decode cX3_signOf 194 = .ok (.istore 9, 2) := by decide +kernel
theorem dX3_signOf_196 : decode cX3_signOf 196 = .ok (.iload 9, 2) := by decide +kernel
theorem dX3_signOf_198 : decode cX3_signOf 198 = .ok (.ireturn, 1) := by decide +kernel
set_option maxRecDepth 20000 in
theorem ggX3_suspicionOf_X3_signOf : GoodIn wsX3_suspicionOf wsX3_signOf := goodIn_r _ [6, 7, 8, 9, 10, 11, 12, 13, 14, 5, 15, 16, 17, 18, 19, 20, 21, 22, 23, 24, 25, 26, 27, 28, 29, 30, 31, 32, 33, 34, 35, 36, 37, 38, 39, 40, 41, 42] (by decide +kernel) (by decide +kernel)
set_option maxRecDepth 20000 in
theorem gX3_suspicionOf_X3_signOf : GoodIn wsX3_suspicionOf (wsV RX3 101 RX3 yX3_signOf wsX3_signOf) := goodIn_app (goodIn_of _ (by decide +kernel)) ggX3_suspicionOf_X3_signOf
theorem dX3_suspicionOf_0 : decode cX3_suspicionOf 0 = .ok (.iconst 0, 1) := by decide +kernel
theorem dX3_suspicionOf_1 : decode cX3_suspicionOf 1 = .ok (.istore_n 3, 1) := by decide +kernel
theorem dX3_suspicionOf_2 : decode cX3_suspicionOf 2 = .ok (.iconst 0, 1) := by decide +kernel
theorem dX3_suspicionOf_3 : decode cX3_suspicionOf 3 = .ok (.istore 4, 2) := by decide +kernel
theorem dX3_suspicionOf_5 : decode cX3_suspicionOf 5 = .ok (.iload 4, 2) := by decide +kernel
theorem dX3_suspicionOf_7 : decode cX3_suspicionOf 7 = .ok (.aload_n 0, 1) := by decide +kernel
theorem dX3_suspicionOf_8 : decode cX3_suspicionOf 8 = .ok (.getfield 67, 3) := by decide +kernel
theorem dX3_suspicionOf_11 : decode cX3_suspicionOf 11 = .ok (.if_icmp .ge 20, 3) := by decide +kernel
theorem dX3_suspicionOf_14 : decode cX3_suspicionOf 14 = .ok (.iload_n 3, 1) := by decide +kernel
theorem dX3_suspicionOf_15 : decode cX3_suspicionOf 15 = .ok (.aload_n 0, 1) := by decide +kernel
theorem dX3_suspicionOf_16 : decode cX3_suspicionOf 16 = .ok (.iload 4, 2) := by decide +kernel
theorem dX3_suspicionOf_18 : decode cX3_suspicionOf 18 = .ok (.iload_n 1, 1) := by decide +kernel
theorem dX3_suspicionOf_19 : decode cX3_suspicionOf 19 = .ok (.iload_n 2, 1) := by decide +kernel
theorem dX3_suspicionOf_20 : decode cX3_suspicionOf 20 = .ok (.invokevirtual 101, 3) := by decide +kernel
theorem dX3_suspicionOf_23 : decode cX3_suspicionOf 23 = .ok (.iadd, 1) := by decide +kernel
theorem dX3_suspicionOf_24 : decode cX3_suspicionOf 24 = .ok (.istore_n 3, 1) := by decide +kernel
theorem dX3_suspicionOf_25 : decode cX3_suspicionOf 25 = .ok (.iinc 4 1, 3) := by decide +kernel
theorem dX3_suspicionOf_28 : decode cX3_suspicionOf 28 = .ok (.goto (-23), 3) := by decide +kernel
theorem dX3_suspicionOf_31 : decode cX3_suspicionOf 31 = .ok (.iload_n 3, 1) := by decide +kernel
theorem dX3_suspicionOf_32 : decode cX3_suspicionOf 32 = .ok (.ireturn, 1) := by decide +kernel
set_option maxRecDepth 20000 in
theorem ggX3_suspicion_X3_isPair : GoodIn wsX3_suspicion wsX3_isPair := goodIn_r _ [5, 6, 7, 4, 8, 9, 10, 11] (by decide +kernel) (by decide +kernel)
set_option maxRecDepth 20000 in
theorem gX3_suspicion_X3_isPair : GoodIn wsX3_suspicion (va_wsS RX3 105 yX3_isPair wsX3_isPair) := goodIn_app (goodIn_of _ (by decide +kernel)) ggX3_suspicion_X3_isPair
set_option maxRecDepth 20000 in
theorem ggX3_suspicion_X3_suspicionOf : GoodIn wsX3_suspicion wsX3_suspicionOf := goodIn_r _ [15, 16, 17, 18, 19, 4, 20, 21, 22, 23, 24, 25, 26, 27, 28, 29, 30, 31, 32, 33, 34, 35, 36, 37, 42, 43, 44, 45, 46, 47, 48, 49, 50, 51, 52, 53, 54, 55, 56, 57, 58, 59, 60] (by decide +kernel) (by decide +kernel)
set_option maxRecDepth 20000 in
theorem gX3_suspicion_X3_suspicionOf : GoodIn wsX3_suspicion (wsV RX3 108 RX3 yX3_suspicionOf wsX3_suspicionOf) := goodIn_app (goodIn_of _ (by decide +kernel)) ggX3_suspicion_X3_suspicionOf
set_option maxRecDepth 20000 in
theorem ggX3_suspicion_X3_fails : GoodIn wsX3_suspicion wsX3_fails := goodIn_r _ [41, 1, 42, 43, 44, 45, 46, 47, 48, 49, 50, 51, 52, 53, 54, 55, 56, 57, 58, 59, 60] (by decide +kernel) (by decide +kernel)
set_option maxRecDepth 20000 in
theorem gX3_suspicion_X3_fails : GoodIn wsX3_suspicion (wsV RX3 77 RX3 yX3_fails wsX3_fails) := goodIn_app (goodIn_of _ (by decide +kernel)) ggX3_suspicion_X3_fails
theorem dX3_suspicion_0 : decode cX3_suspicion 0 = .ok (.aload_n 0, 1) := by decide +kernel
theorem dX3_suspicion_1 : decode cX3_suspicion 1 = .ok (.iconst 0, 1) := by decide +kernel
theorem dX3_suspicion_2 : decode cX3_suspicion 2 = .ok (.putfield 60, 3) := by decide +kernel
theorem dX3_suspicion_5 : decode cX3_suspicion 5 = .ok (.iload_n 1, 1) := by decide +kernel
theorem dX3_suspicion_6 : decode cX3_suspicion 6 = .ok (.iload_n 2, 1) := by decide +kernel
theorem dX3_suspicion_7 : decode cX3_suspicion 7 = .ok (.invokestatic 105, 3) := by decide +kernel
theorem dX3_suspicion_10 : decode cX3_suspicion 10 = .ok (.ifCond .eq 12, 3) := by decide +kernel
theorem dX3_suspicion_13 : decode cX3_suspicion 13 = .ok (.aload_n 0, 1) := by decide +kernel
theorem dX3_suspicion_14 : decode cX3_suspicion 14 = .ok (.iload_n 1, 1) := by decide +kernel
theorem dX3_suspicion_15 : decode cX3_suspicion 15 = .ok (.iload_n 2, 1) := by decide +kernel
theorem dX3_suspicion_16 : decode cX3_suspicion 16 = .ok (.invokevirtual 108, 3) := by decide +kernel
theorem dX3_suspicion_19 : decode cX3_suspicion 19 = .ok (.goto 8, 3) := by decide +kernel
theorem dX3_suspicion_22 : decode cX3_suspicion 22 = .ok (.aload_n 0, 1) := by decide +kernel
theorem dX3_suspicion_23 : decode cX3_suspicion 23 = .ok (.iconst 1, 1) := by decide +kernel
theorem dX3_suspicion_24 : decode cX3_suspicion 24 = .ok (.invokevirtual 77, 3) := by decide +kernel
theorem dX3_suspicion_27 : decode cX3_suspicion 27 = .ok (.ireturn, 1) := by decide +kernel
set_option maxRecDepth 20000 in
theorem ggX3_sign_X3_isTender : GoodIn wsX3_sign wsX3_isTender := goodIn_r _ [6, 7, 8, 9, 5, 10, 42, 43, 44, 45, 46, 47, 48, 49, 50, 51, 52, 53, 54, 55, 56, 57, 58, 59, 60] (by decide +kernel) (by decide +kernel)
set_option maxRecDepth 20000 in
theorem gX3_sign_X3_isTender : GoodIn wsX3_sign (wsV RX3 85 RX3 yX3_isTender wsX3_isTender) := goodIn_app (goodIn_of _ (by decide +kernel)) ggX3_sign_X3_isTender
set_option maxRecDepth 20000 in
theorem ggX3_sign_X3_fails : GoodIn wsX3_sign wsX3_fails := goodIn_r _ [14, 1, 42, 43, 44, 45, 46, 47, 48, 49, 50, 51, 52, 53, 54, 55, 56, 57, 58, 59, 60] (by decide +kernel) (by decide +kernel)
set_option maxRecDepth 20000 in
theorem gX3_sign_X3_fails : GoodIn wsX3_sign (wsV RX3 77 RX3 yX3_fails wsX3_fails) := goodIn_app (goodIn_of _ (by decide +kernel)) ggX3_sign_X3_fails
set_option maxRecDepth 20000 in
theorem ggX3_sign_X3_isPair : GoodIn wsX3_sign wsX3_isPair := goodIn_r _ [17, 18, 19, 5, 20, 8, 9, 10] (by decide +kernel) (by decide +kernel)
set_option maxRecDepth 20000 in
theorem gX3_sign_X3_isPair : GoodIn wsX3_sign (va_wsS RX3 105 yX3_isPair wsX3_isPair) := goodIn_app (goodIn_of _ (by decide +kernel)) ggX3_sign_X3_isPair
set_option maxRecDepth 20000 in
theorem ggX3_sign_X3_signOf : GoodIn wsX3_sign wsX3_signOf := goodIn_r _ [24, 25, 26, 27, 28, 29, 30, 31, 32, 5, 33, 34, 35, 36, 37, 38, 39, 40, 41, 42, 43, 44, 45, 46, 47, 48, 49, 50, 51, 52, 53, 54, 55, 56, 57, 58, 59, 60] (by decide +kernel) (by decide +kernel)
set_option maxRecDepth 20000 in
theorem gX3_sign_X3_signOf : GoodIn wsX3_sign (wsV RX3 101 RX3 yX3_signOf wsX3_signOf) := goodIn_app (goodIn_of _ (by decide +kernel)) ggX3_sign_X3_signOf
theorem dX3_sign_0 : decode cX3_sign 0 = .ok (.aload_n 0, 1) := by decide +kernel
theorem dX3_sign_1 : decode cX3_sign 1 = .ok (.iconst 0, 1) := by decide +kernel
theorem dX3_sign_2 : decode cX3_sign 2 = .ok (.putfield 60, 3) := by decide +kernel
theorem dX3_sign_5 : decode cX3_sign 5 = .ok (.aload_n 0, 1) := by decide +kernel
theorem dX3_sign_6 : decode cX3_sign 6 = .ok (.iload_n 1, 1) := by decide +kernel
theorem dX3_sign_7 : decode cX3_sign 7 = .ok (.invokevirtual 85, 3) := by decide +kernel
theorem dX3_sign_10 : decode cX3_sign 10 = .ok (.ifCond .ne 9, 3) := by decide +kernel
theorem dX3_sign_13 : decode cX3_sign 13 = .ok (.aload_n 0, 1) := by decide +kernel
theorem dX3_sign_14 : decode cX3_sign 14 = .ok (.iconst 1, 1) := by decide +kernel
theorem dX3_sign_15 : decode cX3_sign 15 = .ok (.invokevirtual 77, 3) := by decide +kernel
theorem dX3_sign_18 : decode cX3_sign 18 = .ok (.ireturn, 1) := by decide +kernel
theorem dX3_sign_19 : decode cX3_sign 19 = .ok (.iload_n 2, 1) := by decide +kernel
theorem dX3_sign_20 : decode cX3_sign 20 = .ok (.iload_n 3, 1) := by decide +kernel
theorem dX3_sign_21 : decode cX3_sign 21 = .ok (.invokestatic 105, 3) := by decide +kernel
theorem dX3_sign_24 : decode cX3_sign 24 = .ok (.ifCond .eq 13, 3) := by decide +kernel
theorem dX3_sign_27 : decode cX3_sign 27 = .ok (.aload_n 0, 1) := by decide +kernel
theorem dX3_sign_28 : decode cX3_sign 28 = .ok (.iload_n 1, 1) := by decide +kernel
theorem dX3_sign_29 : decode cX3_sign 29 = .ok (.iload_n 2, 1) := by decide +kernel
theorem dX3_sign_30 : decode cX3_sign 30 = .ok (.iload_n 3, 1) := by decide +kernel
theorem dX3_sign_31 : decode cX3_sign 31 = .ok (.invokevirtual 101, 3) := by decide +kernel
theorem dX3_sign_34 : decode cX3_sign 34 = .ok (.goto 8, 3) := by decide +kernel
theorem dX3_sign_37 : decode cX3_sign 37 = .ok (.aload_n 0, 1) := by decide +kernel
theorem dX3_sign_38 : decode cX3_sign 38 = .ok (.iconst 2, 1) := by decide +kernel
theorem dX3_sign_39 : decode cX3_sign 39 = .ok (.invokevirtual 77, 3) := by decide +kernel
theorem dX3_sign_42 : decode cX3_sign 42 = .ok (.ireturn, 1) := by decide +kernel
set_option maxRecDepth 20000 in
theorem ggX3_setMark_X3_in : GoodIn wsX3_setMark wsX3_in := goodIn_r _ [6] (by decide +kernel) (by decide +kernel)
set_option maxRecDepth 20000 in
theorem gX3_setMark_X3_in : GoodIn wsX3_setMark (va_wsS RX3 63 yX3_in wsX3_in) := goodIn_app (goodIn_of _ (by decide +kernel)) ggX3_setMark_X3_in
set_option maxRecDepth 20000 in
theorem ggX3_setMark_X3_fails : GoodIn wsX3_setMark wsX3_fails := goodIn_r _ [10, 1, 11, 12, 13, 14, 15, 16, 17, 18, 19, 20, 21, 22, 23, 24, 25, 26, 27, 28, 29] (by decide +kernel) (by decide +kernel)
set_option maxRecDepth 20000 in
theorem gX3_setMark_X3_fails : GoodIn wsX3_setMark (wsV RX3 77 RX3 yX3_fails wsX3_fails) := goodIn_app (goodIn_of _ (by decide +kernel)) ggX3_setMark_X3_fails
theorem dX3_setMark_0 : decode cX3_setMark 0 = .ok (.aload_n 0, 1) := by decide +kernel
theorem dX3_setMark_1 : decode cX3_setMark 1 = .ok (.iconst 0, 1) := by decide +kernel
theorem dX3_setMark_2 : decode cX3_setMark 2 = .ok (.putfield 60, 3) := by decide +kernel
theorem dX3_setMark_5 : decode cX3_setMark 5 = .ok (.iload_n 1, 1) := by decide +kernel
theorem dX3_setMark_6 : decode cX3_setMark 6 = .ok (.iconst 1, 1) := by decide +kernel
theorem dX3_setMark_7 : decode cX3_setMark 7 = .ok (.sipush 1000, 3) := by decide +kernel
theorem dX3_setMark_10 : decode cX3_setMark 10 = .ok (.invokestatic 63, 3) := by decide +kernel
theorem dX3_setMark_13 : decode cX3_setMark 13 = .ok (.ifCond .ne 9, 3) := by decide +kernel
theorem dX3_setMark_16 : decode cX3_setMark 16 = .ok (.aload_n 0, 1) := by decide +kernel
theorem dX3_setMark_17 : decode cX3_setMark 17 = .ok (.iconst 1, 1) := by decide +kernel
theorem dX3_setMark_18 : decode cX3_setMark 18 = .ok (.invokevirtual 77, 3) := by decide +kernel
theorem dX3_setMark_21 : decode cX3_setMark 21 = .ok (.ireturn, 1) := by decide +kernel
theorem dX3_setMark_22 : decode cX3_setMark 22 = .ok (.aload_n 0, 1) := by decide +kernel
theorem dX3_setMark_23 : decode cX3_setMark 23 = .ok (.getfield 29, 3) := by decide +kernel
theorem dX3_setMark_26 : decode cX3_setMark 26 = .ok (.istore_n 2, 1) := by decide +kernel
theorem dX3_setMark_27 : decode cX3_setMark 27 = .ok (.aload_n 0, 1) := by decide +kernel
theorem dX3_setMark_28 : decode cX3_setMark 28 = .ok (.iload_n 1, 1) := by decide +kernel
theorem dX3_setMark_29 : decode cX3_setMark 29 = .ok (.putfield 29, 3) := by decide +kernel
theorem dX3_setMark_32 : decode cX3_setMark 32 = .ok (.iload_n 2, 1) := by decide +kernel
theorem dX3_setMark_33 : decode cX3_setMark 33 = .ok (.ireturn, 1) := by decide +kernel
set_option maxRecDepth 20000 in
theorem ggX3_worst_X3_suspicionOf : GoodIn wsX3_worst wsX3_suspicionOf := goodIn_r _ [6, 7, 8, 9, 10, 5, 11, 12, 13, 14, 15, 16, 17, 18, 19, 20, 21, 22, 23, 24, 25, 26, 27, 28, 29, 30, 31, 32, 33, 34, 35, 36, 37, 38, 39, 40, 41, 42, 43, 44, 45, 46, 47] (by decide +kernel) (by decide +kernel)
set_option maxRecDepth 20000 in
theorem gX3_worst_X3_suspicionOf : GoodIn wsX3_worst (wsV RX3 108 RX3 yX3_suspicionOf wsX3_suspicionOf) := goodIn_app (goodIn_of _ (by decide +kernel)) ggX3_worst_X3_suspicionOf
theorem dX3_worst_0 : decode cX3_worst 0 = .ok (.aload_n 0, 1) := by decide +kernel
theorem dX3_worst_1 : decode cX3_worst 1 = .ok (.iconst 0, 1) := by decide +kernel
theorem dX3_worst_2 : decode cX3_worst 2 = .ok (.putfield 60, 3) := by decide +kernel
theorem dX3_worst_5 : decode cX3_worst 5 = .ok (.iconst (-1), 1) := by decide +kernel
theorem dX3_worst_6 : decode cX3_worst 6 = .ok (.istore_n 1, 1) := by decide +kernel
theorem dX3_worst_7 : decode cX3_worst 7 = .ok (.iconst 0, 1) := by decide +kernel
theorem dX3_worst_8 : decode cX3_worst 8 = .ok (.istore_n 2, 1) := by decide +kernel
theorem dX3_worst_9 : decode cX3_worst 9 = .ok (.iconst 0, 1) := by decide +kernel
theorem dX3_worst_10 : decode cX3_worst 10 = .ok (.istore_n 3, 1) := by decide +kernel
theorem dX3_worst_11 : decode cX3_worst 11 = .ok (.iload_n 3, 1) := by decide +kernel
theorem dX3_worst_12 : decode cX3_worst 12 = .ok (.bipush 7, 2) := by decide +kernel
theorem dX3_worst_14 : decode cX3_worst 14 = .ok (.if_icmp .ge 67, 3) := by decide +kernel
theorem dX3_worst_17 : decode cX3_worst 17 = .ok (.iload_n 3, 1) := by decide +kernel
theorem dX3_worst_18 : decode cX3_worst 18 = .ok (.iconst 1, 1) := by decide +kernel
theorem dX3_worst_19 : decode cX3_worst 19 = .ok (.iadd, 1) := by decide +kernel
theorem dX3_worst_20 : decode cX3_worst 20 = .ok (.istore 4, 2) := by decide +kernel
theorem dX3_worst_22 : decode cX3_worst 22 = .ok (.iload 4, 2) := by decide +kernel
theorem dX3_worst_24 : decode cX3_worst 24 = .ok (.bipush 7, 2) := by decide +kernel
theorem dX3_worst_26 : decode cX3_worst 26 = .ok (.if_icmp .ge 49, 3) := by decide +kernel
theorem dX3_worst_29 : decode cX3_worst 29 = .ok (.aload_n 0, 1) := by decide +kernel
theorem dX3_worst_30 : decode cX3_worst 30 = .ok (.iload_n 3, 1) := by decide +kernel
theorem dX3_worst_31 : decode cX3_worst 31 = .ok (.iload 4, 2) := by decide +kernel
theorem dX3_worst_33 : decode cX3_worst 33 = .ok (.invokevirtual 108, 3) := by decide +kernel
theorem dX3_worst_36 : decode cX3_worst 36 = .ok (.istore 5, 2) := by decide +kernel
theorem dX3_worst_38 : decode cX3_worst 38 = .ok (.iload 5, 2) := by decide +kernel
theorem dX3_worst_40 : decode cX3_worst 40 = .ok (.iload_n 2, 1) := by decide +kernel
theorem dX3_worst_41 : decode cX3_worst 41 = .ok (.if_icmp .le 13, 3) := by decide +kernel
theorem dX3_worst_44 : decode cX3_worst 44 = .ok (.bipush 10, 2) := by decide +kernel
theorem dX3_worst_46 : decode cX3_worst 46 = .ok (.iload_n 3, 1) := by decide +kernel
theorem dX3_worst_47 : decode cX3_worst 47 = .ok (.imul, 1) := by decide +kernel
theorem dX3_worst_48 : decode cX3_worst 48 = .ok (.iload 4, 2) := by decide +kernel
theorem dX3_worst_50 : decode cX3_worst 50 = .ok (.iadd, 1) := by decide +kernel
theorem dX3_worst_51 : decode cX3_worst 51 = .ok (.goto 4, 3) := by decide +kernel
theorem dX3_worst_54 : decode cX3_worst 54 = .ok (.iload_n 1, 1) := by decide +kernel
theorem dX3_worst_55 : decode cX3_worst 55 = .ok (.istore_n 1, 1) := by decide +kernel
theorem dX3_worst_56 : decode cX3_worst 56 = .ok (.iload 5, 2) := by decide +kernel
theorem dX3_worst_58 : decode cX3_worst 58 = .ok (.iload_n 2, 1) := by decide +kernel
theorem dX3_worst_59 : decode cX3_worst 59 = .ok (.if_icmp .le 8, 3) := by decide +kernel
theorem dX3_worst_62 : decode cX3_worst 62 = .ok (.iload 5, 2) := by decide +kernel
theorem dX3_worst_64 : decode cX3_worst 64 = .ok (.goto 4, 3) := by decide +kernel
theorem dX3_worst_67 : decode cX3_worst 67 = .ok (.iload_n 2, 1) := by decide +kernel
theorem dX3_worst_68 : decode cX3_worst 68 = .ok (.istore_n 2, 1) := by decide +kernel
theorem dX3_worst_69 : decode cX3_worst 69 = .ok (.iinc 4 1, 3) := by decide +kernel
theorem dX3_worst_72 : decode cX3_worst 72 = .ok (.goto (-50), 3) := by decide +kernel
theorem dX3_worst_75 : decode cX3_worst 75 = .ok (.iinc 3 1, 3) := by decide +kernel
theorem dX3_worst_78 : decode cX3_worst 78 = .ok (.goto (-67), 3) := by decide +kernel
theorem dX3_worst_81 : decode cX3_worst 81 = .ok (.iload_n 1, 1) := by decide +kernel
theorem dX3_worst_82 : decode cX3_worst 82 = .ok (.ireturn, 1) := by decide +kernel
set_option maxRecDepth 20000 in
theorem ggX3_file_X3_isPair : GoodIn wsX3_file wsX3_isPair := goodIn_r _ [12, 13, 14, 11, 15, 16, 17, 18] (by decide +kernel) (by decide +kernel)
set_option maxRecDepth 20000 in
theorem gX3_file_X3_isPair : GoodIn wsX3_file (va_wsS RX3 105 yX3_isPair wsX3_isPair) := goodIn_app (goodIn_of _ (by decide +kernel)) ggX3_file_X3_isPair
set_option maxRecDepth 20000 in
theorem ggX3_file_X3_fails : GoodIn wsX3_file wsX3_fails := goodIn_r _ [22, 1, 48, 49, 50, 51, 52, 53, 54, 55, 56, 57, 58, 59, 60, 61, 62, 63, 64, 65, 66] (by decide +kernel) (by decide +kernel)
set_option maxRecDepth 20000 in
theorem gX3_file_X3_fails : GoodIn wsX3_file (wsV RX3 77 RX3 yX3_fails wsX3_fails) := goodIn_app (goodIn_of _ (by decide +kernel)) ggX3_file_X3_fails
set_option maxRecDepth 20000 in
theorem ggX3_file_X3_suspicionOf : GoodIn wsX3_file wsX3_suspicionOf := goodIn_r _ [26, 7, 27, 28, 29, 11, 30, 31, 32, 33, 34, 35, 36, 37, 38, 39, 40, 41, 42, 43, 44, 45, 46, 47, 48, 49, 50, 51, 52, 53, 54, 55, 56, 57, 58, 59, 60, 61, 62, 63, 64, 65, 66] (by decide +kernel) (by decide +kernel)
set_option maxRecDepth 20000 in
theorem gX3_file_X3_suspicionOf : GoodIn wsX3_file (wsV RX3 108 RX3 yX3_suspicionOf wsX3_suspicionOf) := goodIn_app (goodIn_of _ (by decide +kernel)) ggX3_file_X3_suspicionOf
set_option maxRecDepth 20000 in
theorem ggX3_file_X3_signOf : GoodIn wsX3_file wsX3_signOf := goodIn_r _ [30, 31, 32, 33, 34, 35, 36, 37, 38, 11, 39, 40, 41, 42, 43, 44, 45, 46, 47, 48, 49, 50, 51, 52, 53, 54, 55, 56, 57, 58, 59, 60, 61, 62, 63, 64, 65, 66] (by decide +kernel) (by decide +kernel)
set_option maxRecDepth 20000 in
theorem gX3_file_X3_signOf : GoodIn wsX3_file (wsV RX3 101 RX3 yX3_signOf wsX3_signOf) := goodIn_app (goodIn_of _ (by decide +kernel)) ggX3_file_X3_signOf
theorem dX3_file_0 : decode cX3_file 0 = .ok (.aload_n 0, 1) := by decide +kernel
theorem dX3_file_1 : decode cX3_file 1 = .ok (.iconst 0, 1) := by decide +kernel
theorem dX3_file_2 : decode cX3_file 2 = .ok (.putfield 60, 3) := by decide +kernel
theorem dX3_file_5 : decode cX3_file 5 = .ok (.iload_n 1, 1) := by decide +kernel
theorem dX3_file_6 : decode cX3_file 6 = .ok (.iload_n 2, 1) := by decide +kernel
theorem dX3_file_7 : decode cX3_file 7 = .ok (.invokestatic 105, 3) := by decide +kernel
theorem dX3_file_10 : decode cX3_file 10 = .ok (.ifCond .ne 9, 3) := by decide +kernel
theorem dX3_file_13 : decode cX3_file 13 = .ok (.aload_n 0, 1) := by decide +kernel
theorem dX3_file_14 : decode cX3_file 14 = .ok (.iconst 1, 1) := by decide +kernel
theorem dX3_file_15 : decode cX3_file 15 = .ok (.invokevirtual 77, 3) := by decide +kernel
theorem dX3_file_18 : decode cX3_file 18 = .ok (.ireturn, 1) := by decide +kernel
theorem dX3_file_19 : decode cX3_file 19 = .ok (.iload_n 1, 1) := by decide +kernel
theorem dX3_file_20 : decode cX3_file 20 = .ok (.iload_n 2, 1) := by decide +kernel
theorem dX3_file_21 : decode cX3_file 21 = .ok (.if_icmp .ge 7, 3) := by decide +kernel
theorem dX3_file_24 : decode cX3_file 24 = .ok (.iload_n 1, 1) := by decide +kernel
theorem dX3_file_25 : decode cX3_file 25 = .ok (.goto 4, 3) := by decide +kernel
theorem dX3_file_28 : decode cX3_file 28 = .ok (.iload_n 2, 1) := by decide +kernel
theorem dX3_file_29 : decode cX3_file 29 = .ok (.istore_n 3, 1) := by decide +kernel
theorem dX3_file_30 : decode cX3_file 30 = .ok (.iload_n 1, 1) := by decide +kernel
theorem dX3_file_31 : decode cX3_file 31 = .ok (.iload_n 2, 1) := by decide +kernel
theorem dX3_file_32 : decode cX3_file 32 = .ok (.if_icmp .ge 7, 3) := by decide +kernel
theorem dX3_file_35 : decode cX3_file 35 = .ok (.iload_n 2, 1) := by decide +kernel
theorem dX3_file_36 : decode cX3_file 36 = .ok (.goto 4, 3) := by decide +kernel
theorem dX3_file_39 : decode cX3_file 39 = .ok (.iload_n 1, 1) := by decide +kernel
theorem dX3_file_40 : decode cX3_file 40 = .ok (.istore 4, 2) := by decide +kernel
theorem dX3_file_42 : decode cX3_file 42 = .ok (.iconst 0, 1) := by decide +kernel
theorem dX3_file_43 : decode cX3_file 43 = .ok (.istore 5, 2) := by decide +kernel
theorem dX3_file_45 : decode cX3_file 45 = .ok (.iconst 0, 1) := by decide +kernel
theorem dX3_file_46 : decode cX3_file 46 = .ok (.istore 6, 2) := by decide +kernel
theorem dX3_file_48 : decode cX3_file 48 = .ok (.iload 6, 2) := by decide +kernel
theorem dX3_file_50 : decode cX3_file 50 = .ok (.aload_n 0, 1) := by decide +kernel
theorem dX3_file_51 : decode cX3_file 51 = .ok (.getfield 70, 3) := by decide +kernel
theorem dX3_file_54 : decode cX3_file 54 = .ok (.if_icmp .ge 44, 3) := by decide +kernel
theorem dX3_file_57 : decode cX3_file 57 = .ok (.iload 5, 2) := by decide +kernel
theorem dX3_file_59 : decode cX3_file 59 = .ok (.ifCond .ne 26, 3) := by decide +kernel
theorem dX3_file_62 : decode cX3_file 62 = .ok (.aload_n 0, 1) := by decide +kernel
theorem dX3_file_63 : decode cX3_file 63 = .ok (.getfield 33, 3) := by decide +kernel
theorem dX3_file_66 : decode cX3_file 66 = .ok (.iload 6, 2) := by decide +kernel
theorem dX3_file_68 : decode cX3_file 68 = .ok (.iaload, 1) := by decide +kernel
theorem dX3_file_69 : decode cX3_file 69 = .ok (.iload_n 3, 1) := by decide +kernel
theorem dX3_file_70 : decode cX3_file 70 = .ok (.if_icmp .ne 19, 3) := by decide +kernel
theorem dX3_file_73 : decode cX3_file 73 = .ok (.aload_n 0, 1) := by decide +kernel
theorem dX3_file_74 : decode cX3_file 74 = .ok (.getfield 36, 3) := by decide +kernel
theorem dX3_file_77 : decode cX3_file 77 = .ok (.iload 6, 2) := by decide +kernel
theorem dX3_file_79 : decode cX3_file 79 = .ok (.iaload, 1) := by decide +kernel
theorem dX3_file_80 : decode cX3_file 80 = .ok (.iload 4, 2) := by decide +kernel
theorem dX3_file_82 : decode cX3_file 82 = .ok (.if_icmp .ne 7, 3) := by decide +kernel
theorem dX3_file_85 : decode cX3_file 85 = .ok (.iconst 1, 1) := by decide +kernel
theorem dX3_file_86 : decode cX3_file 86 = .ok (.goto 4, 3) := by decide +kernel
theorem dX3_file_89 : decode cX3_file 89 = .ok (.iconst 0, 1) := by decide +kernel
theorem dX3_file_90 : decode cX3_file 90 = .ok (.istore 5, 2) := by decide +kernel
theorem dX3_file_92 : decode cX3_file 92 = .ok (.iinc 6 1, 3) := by decide +kernel
theorem dX3_file_95 : decode cX3_file 95 = .ok (.goto (-47), 3) := by decide +kernel
theorem dX3_file_98 : decode cX3_file 98 = .ok (.iload 5, 2) := by decide +kernel
theorem dX3_file_100 : decode cX3_file 100 = .ok (.ifCond .ne 25, 3) := by decide +kernel
theorem dX3_file_103 : decode cX3_file 103 = .ok (.aload_n 0, 1) := by decide +kernel
theorem dX3_file_104 : decode cX3_file 104 = .ok (.getfield 70, 3) := by decide +kernel
theorem dX3_file_107 : decode cX3_file 107 = .ok (.bipush 20, 2) := by decide +kernel
theorem dX3_file_109 : decode cX3_file 109 = .ok (.if_icmp .eq 16, 3) := by decide +kernel
theorem dX3_file_112 : decode cX3_file 112 = .ok (.aload_n 0, 1) := by decide +kernel
theorem dX3_file_113 : decode cX3_file 113 = .ok (.iload_n 1, 1) := by decide +kernel
theorem dX3_file_114 : decode cX3_file 114 = .ok (.iload_n 2, 1) := by decide +kernel
theorem dX3_file_115 : decode cX3_file 115 = .ok (.invokevirtual 108, 3) := by decide +kernel
theorem dX3_file_118 : decode cX3_file 118 = .ok (.aload_n 0, 1) := by decide +kernel
theorem dX3_file_119 : decode cX3_file 119 = .ok (.getfield 29, 3) := by decide +kernel
theorem dX3_file_122 : decode cX3_file 122 = .ok (.if_icmp .ge 9, 3) := by decide +kernel
theorem dX3_file_125 : decode cX3_file 125 = .ok (.aload_n 0, 1) := by decide +kernel
theorem dX3_file_126 : decode cX3_file 126 = .ok (.iconst 2, 1) := by decide +kernel
theorem dX3_file_127 : decode cX3_file 127 = .ok (.invokevirtual 77, 3) := by decide +kernel
theorem dX3_file_130 : decode cX3_file 130 = .ok (.ireturn, 1) := by decide +kernel
theorem dX3_file_131 : decode cX3_file 131 = .ok (.aload_n 0, 1) := by decide +kernel
theorem dX3_file_132 : decode cX3_file 132 = .ok (.getfield 33, 3) := by decide +kernel
theorem dX3_file_135 : decode cX3_file 135 = .ok (.aload_n 0, 1) := by decide +kernel
theorem dX3_file_136 : decode cX3_file 136 = .ok (.getfield 70, 3) := by decide +kernel
theorem dX3_file_139 : decode cX3_file 139 = .ok (.iload_n 3, 1) := by decide +kernel
theorem dX3_file_140 : decode cX3_file 140 = .ok (.iastore, 1) := by decide +kernel
theorem dX3_file_141 : decode cX3_file 141 = .ok (.aload_n 0, 1) := by decide +kernel
theorem dX3_file_142 : decode cX3_file 142 = .ok (.getfield 36, 3) := by decide +kernel
theorem dX3_file_145 : decode cX3_file 145 = .ok (.aload_n 0, 1) := by decide +kernel
theorem dX3_file_146 : decode cX3_file 146 = .ok (.getfield 70, 3) := by decide +kernel
theorem dX3_file_149 : decode cX3_file 149 = .ok (.iload 4, 2) := by decide +kernel
theorem dX3_file_151 : decode cX3_file 151 = .ok (.iastore, 1) := by decide +kernel
theorem dX3_file_152 : decode cX3_file 152 = .ok (.aload_n 0, 1) := by decide +kernel
theorem dX3_file_153 : decode cX3_file 153 = .ok (.getfield 45, 3) := by decide +kernel
theorem dX3_file_156 : decode cX3_file 156 = .ok (.aload_n 0, 1) := by decide +kernel
theorem dX3_file_157 : decode cX3_file 157 = .ok (.getfield 70, 3) := by decide +kernel
theorem dX3_file_160 : decode cX3_file 160 = .ok (.iconst (-1), 1) := by decide +kernel
theorem dX3_file_161 : decode cX3_file 161 = .ok (.iastore, 1) := by decide +kernel
theorem dX3_file_162 : decode cX3_file 162 = .ok (.iconst 0, 1) := by decide +kernel
theorem dX3_file_163 : decode cX3_file 163 = .ok (.istore 6, 2) := by decide +kernel
theorem dX3_file_165 : decode cX3_file 165 = .ok (.iload 6, 2) := by decide +kernel
theorem dX3_file_167 : decode cX3_file 167 = .ok (.aload_n 0, 1) := by decide +kernel
theorem dX3_file_168 : decode cX3_file 168 = .ok (.getfield 67, 3) := by decide +kernel
theorem dX3_file_171 : decode cX3_file 171 = .ok (.if_icmp .ge 40, 3) := by decide +kernel
theorem dX3_file_174 : decode cX3_file 174 = .ok (.aload_n 0, 1) := by decide +kernel
theorem dX3_file_175 : decode cX3_file 175 = .ok (.getfield 39, 3) := by decide +kernel
theorem dX3_file_178 : decode cX3_file 178 = .ok (.aload_n 0, 1) := by decide +kernel
theorem dX3_file_179 : decode cX3_file 179 = .ok (.getfield 70, 3) := by decide +kernel
theorem dX3_file_182 : decode cX3_file 182 = .ok (.dup2, 1) := by decide +kernel
theorem dX3_file_183 : decode cX3_file 183 = .ok (.iaload, 1) := by decide +kernel
theorem dX3_file_184 : decode cX3_file 184 = .ok (.aload_n 0, 1) := by decide +kernel
theorem dX3_file_185 : decode cX3_file 185 = .ok (.iload 6, 2) := by decide +kernel
theorem dX3_file_187 : decode cX3_file 187 = .ok (.iload_n 1, 1) := by decide +kernel
theorem dX3_file_188 : decode cX3_file 188 = .ok (.iload_n 2, 1) := by decide +kernel
theorem dX3_file_189 : decode cX3_file 189 = .ok (.invokevirtual 101, 3) := by decide +kernel
theorem dX3_file_192 : decode cX3_file 192 = .ok (.ifCond .le 10, 3) := by decide +kernel
theorem dX3_file_195 : decode cX3_file 195 = .ok (.iconst 1, 1) := by decide +kernel
theorem dX3_file_196 : decode cX3_file 196 = .ok (.iload 6, 2) := by decide +kernel
theorem dX3_file_198 : decode cX3_file 198 = .ok (.ishl, 1) := by decide +kernel
theorem dX3_file_199 : decode cX3_file 199 = .ok (.goto 4, 3) := by decide +kernel
theorem dX3_file_202 : decode cX3_file 202 = .ok (.iconst 0, 1) := by decide +kernel
theorem dX3_file_203 : decode cX3_file 203 = .ok (.ior, 1) := by decide +kernel
theorem dX3_file_204 : decode cX3_file 204 = .ok (.iastore, 1) := by decide +kernel
theorem dX3_file_205 : decode cX3_file 205 = .ok (.iinc 6 1, 3) := by decide +kernel
theorem dX3_file_208 : decode cX3_file 208 = .ok (.goto (-43), 3) := by decide +kernel
theorem dX3_file_211 : decode cX3_file 211 = .ok (.aload_n 0, 1) := by decide +kernel
theorem dX3_file_212 : decode cX3_file 212 = .ok (.dup, 1) := by decide +kernel
theorem dX3_file_213 : decode cX3_file 213 = .ok (.getfield 70, 3) := by decide +kernel
theorem dX3_file_216 : decode cX3_file 216 = .ok (.iconst 1, 1) := by decide +kernel
theorem dX3_file_217 : decode cX3_file 217 = .ok (.iadd, 1) := by decide +kernel
theorem dX3_file_218 : decode cX3_file 218 = .ok (.putfield 70, 3) := by decide +kernel
theorem dX3_file_221 : decode cX3_file 221 = .ok (.aload_n 0, 1) := by decide +kernel
theorem dX3_file_222 : decode cX3_file 222 = .ok (.getfield 70, 3) := by decide +kernel
theorem dX3_file_225 : decode cX3_file 225 = .ok (.iconst 1, 1) := by decide +kernel
theorem dX3_file_226 : decode cX3_file 226 = .ok (.isub, 1) := by decide +kernel
theorem dX3_file_227 : decode cX3_file 227 = .ok (.ireturn, 1) := by decide +kernel
theorem dX3_count_0 : decode cX3_count 0 = .ok (.iconst 0, 1) := by decide +kernel
theorem dX3_count_1 : decode cX3_count 1 = .ok (.istore_n 1, 1) := by decide +kernel
theorem dX3_count_2 : decode cX3_count 2 = .ok (.iconst 0, 1) := by decide +kernel
theorem dX3_count_3 : decode cX3_count 3 = .ok (.istore_n 2, 1) := by decide +kernel
theorem dX3_count_4 : decode cX3_count 4 = .ok (.iload_n 2, 1) := by decide +kernel
theorem dX3_count_5 : decode cX3_count 5 = .ok (.bipush 30, 2) := by decide +kernel
theorem dX3_count_7 : decode cX3_count 7 = .ok (.if_icmp .ge 17, 3) := by decide +kernel
theorem dX3_count_10 : decode cX3_count 10 = .ok (.iload_n 1, 1) := by decide +kernel
theorem dX3_count_11 : decode cX3_count 11 = .ok (.iload_n 0, 1) := by decide +kernel
theorem dX3_count_12 : decode cX3_count 12 = .ok (.iload_n 2, 1) := by decide +kernel
theorem dX3_count_13 : decode cX3_count 13 = .ok (.ishr, 1) := by decide +kernel
theorem dX3_count_14 : decode cX3_count 14 = .ok (.iconst 1, 1) := by decide +kernel
theorem dX3_count_15 : decode cX3_count 15 = .ok (.iand, 1) := by decide +kernel
theorem dX3_count_16 : decode cX3_count 16 = .ok (.iadd, 1) := by decide +kernel
theorem dX3_count_17 : decode cX3_count 17 = .ok (.istore_n 1, 1) := by decide +kernel
theorem dX3_count_18 : decode cX3_count 18 = .ok (.iinc 2 1, 3) := by decide +kernel
theorem dX3_count_21 : decode cX3_count 21 = .ok (.goto (-17), 3) := by decide +kernel
theorem dX3_count_24 : decode cX3_count 24 = .ok (.iload_n 1, 1) := by decide +kernel
theorem dX3_count_25 : decode cX3_count 25 = .ok (.ireturn, 1) := by decide +kernel
set_option maxRecDepth 20000 in
theorem ggX3_matters_X3_isFile : GoodIn wsX3_matters wsX3_isFile := goodIn_r _ [7, 8, 9, 10, 6, 11, 19, 20, 21, 22, 23, 24, 25, 26, 27, 28, 29, 30, 31, 32, 33, 34, 35, 36, 37] (by decide +kernel) (by decide +kernel)
set_option maxRecDepth 20000 in
theorem gX3_matters_X3_isFile : GoodIn wsX3_matters (wsV RX3 112 RX3 yX3_isFile wsX3_isFile) := goodIn_app (goodIn_of _ (by decide +kernel)) ggX3_matters_X3_isFile
set_option maxRecDepth 20000 in
theorem ggX3_matters_X3_count : GoodIn wsX3_matters wsX3_count := goodIn_r _ [14] (by decide +kernel) (by decide +kernel)
set_option maxRecDepth 20000 in
theorem gX3_matters_X3_count : GoodIn wsX3_matters (va_wsS RX3 115 yX3_count wsX3_count) := goodIn_app (goodIn_of _ (by decide +kernel)) ggX3_matters_X3_count
set_option maxRecDepth 20000 in
theorem ggX3_matters_X3_fails : GoodIn wsX3_matters wsX3_fails := goodIn_r _ [18, 1, 19, 20, 21, 22, 23, 24, 25, 26, 27, 28, 29, 30, 31, 32, 33, 34, 35, 36, 37] (by decide +kernel) (by decide +kernel)
set_option maxRecDepth 20000 in
theorem gX3_matters_X3_fails : GoodIn wsX3_matters (wsV RX3 77 RX3 yX3_fails wsX3_fails) := goodIn_app (goodIn_of _ (by decide +kernel)) ggX3_matters_X3_fails
theorem dX3_matters_0 : decode cX3_matters 0 = .ok (.aload_n 0, 1) := by decide +kernel
theorem dX3_matters_1 : decode cX3_matters 1 = .ok (.iconst 0, 1) := by decide +kernel
theorem dX3_matters_2 : decode cX3_matters 2 = .ok (.putfield 60, 3) := by decide +kernel
theorem dX3_matters_5 : decode cX3_matters 5 = .ok (.aload_n 0, 1) := by decide +kernel
theorem dX3_matters_6 : decode cX3_matters 6 = .ok (.iload_n 1, 1) := by decide +kernel
theorem dX3_matters_7 : decode cX3_matters 7 = .ok (.invokevirtual 112, 3) := by decide +kernel
theorem dX3_matters_10 : decode cX3_matters 10 = .ok (.ifCond .eq 15, 3) := by decide +kernel
theorem dX3_matters_13 : decode cX3_matters 13 = .ok (.aload_n 0, 1) := by decide +kernel
theorem dX3_matters_14 : decode cX3_matters 14 = .ok (.getfield 39, 3) := by decide +kernel
theorem dX3_matters_17 : decode cX3_matters 17 = .ok (.iload_n 1, 1) := by decide +kernel
theorem dX3_matters_18 : decode cX3_matters 18 = .ok (.iaload, 1) := by decide +kernel
theorem dX3_matters_19 : decode cX3_matters 19 = .ok (.invokestatic 115, 3) := by decide +kernel
theorem dX3_matters_22 : decode cX3_matters 22 = .ok (.goto 8, 3) := by decide +kernel
theorem dX3_matters_25 : decode cX3_matters 25 = .ok (.aload_n 0, 1) := by decide +kernel
theorem dX3_matters_26 : decode cX3_matters 26 = .ok (.iconst 1, 1) := by decide +kernel
theorem dX3_matters_27 : decode cX3_matters 27 = .ok (.invokevirtual 77, 3) := by decide +kernel
theorem dX3_matters_30 : decode cX3_matters 30 = .ok (.ireturn, 1) := by decide +kernel
theorem dX3_isOf_0 : decode cX3_isOf 0 = .ok (.iload_n 2, 1) := by decide +kernel
theorem dX3_isOf_1 : decode cX3_isOf 1 = .ok (.aload_n 0, 1) := by decide +kernel
theorem dX3_isOf_2 : decode cX3_isOf 2 = .ok (.getfield 33, 3) := by decide +kernel
theorem dX3_isOf_5 : decode cX3_isOf 5 = .ok (.iload_n 1, 1) := by decide +kernel
theorem dX3_isOf_6 : decode cX3_isOf 6 = .ok (.iaload, 1) := by decide +kernel
theorem dX3_isOf_7 : decode cX3_isOf 7 = .ok (.if_icmp .eq 13, 3) := by decide +kernel
theorem dX3_isOf_10 : decode cX3_isOf 10 = .ok (.iload_n 2, 1) := by decide +kernel
theorem dX3_isOf_11 : decode cX3_isOf 11 = .ok (.aload_n 0, 1) := by decide +kernel
theorem dX3_isOf_12 : decode cX3_isOf 12 = .ok (.getfield 36, 3) := by decide +kernel
theorem dX3_isOf_15 : decode cX3_isOf 15 = .ok (.iload_n 1, 1) := by decide +kernel
theorem dX3_isOf_16 : decode cX3_isOf 16 = .ok (.iaload, 1) := by decide +kernel
theorem dX3_isOf_17 : decode cX3_isOf 17 = .ok (.if_icmp .ne 7, 3) := by decide +kernel
theorem dX3_isOf_20 : decode cX3_isOf 20 = .ok (.iconst 1, 1) := by decide +kernel
theorem dX3_isOf_21 : decode cX3_isOf 21 = .ok (.goto 4, 3) := by decide +kernel
theorem dX3_isOf_24 : decode cX3_isOf 24 = .ok (.iconst 0, 1) := by decide +kernel
theorem dX3_isOf_25 : decode cX3_isOf 25 = .ok (.ireturn, 1) := by decide +kernel
set_option maxRecDepth 20000 in
theorem ggX3_tell_X3_isFile : GoodIn wsX3_tell wsX3_isFile := goodIn_r _ [12, 13, 14, 15, 11, 16, 27, 28, 29, 30, 31, 32, 33, 34, 35, 36, 37, 38, 39, 40, 41, 42, 43, 44, 45] (by decide +kernel) (by decide +kernel)
set_option maxRecDepth 20000 in
theorem gX3_tell_X3_isFile : GoodIn wsX3_tell (wsV RX3 112 RX3 yX3_isFile wsX3_isFile) := goodIn_app (goodIn_of _ (by decide +kernel)) ggX3_tell_X3_isFile
set_option maxRecDepth 20000 in
theorem ggX3_tell_X3_isTender : GoodIn wsX3_tell wsX3_isTender := goodIn_r _ [20, 21, 14, 15, 11, 16, 27, 28, 29, 30, 31, 32, 33, 34, 35, 36, 37, 38, 39, 40, 41, 42, 43, 44, 45] (by decide +kernel) (by decide +kernel)
set_option maxRecDepth 20000 in
theorem gX3_tell_X3_isTender : GoodIn wsX3_tell (wsV RX3 85 RX3 yX3_isTender wsX3_isTender) := goodIn_app (goodIn_of _ (by decide +kernel)) ggX3_tell_X3_isTender
set_option maxRecDepth 20000 in
theorem ggX3_tell_X3_isOf : GoodIn wsX3_tell wsX3_isOf := goodIn_r _ [25, 7, 26, 27, 28, 29, 30, 31, 32, 33, 34, 35, 36, 37, 38, 39, 40, 41, 42, 43, 44, 45] (by decide +kernel) (by decide +kernel)
set_option maxRecDepth 20000 in
theorem gX3_tell_X3_isOf : GoodIn wsX3_tell (wsV RX3 118 RX3 yX3_isOf wsX3_isOf) := goodIn_app (goodIn_of _ (by decide +kernel)) ggX3_tell_X3_isOf
theorem dX3_tell_0 : decode cX3_tell 0 = .ok (.aload_n 0, 1) := by decide +kernel
theorem dX3_tell_1 : decode cX3_tell 1 = .ok (.aload_n 0, 1) := by decide +kernel
theorem dX3_tell_2 : decode cX3_tell 2 = .ok (.iload_n 1, 1) := by decide +kernel
theorem dX3_tell_3 : decode cX3_tell 3 = .ok (.invokevirtual 112, 3) := by decide +kernel
theorem dX3_tell_6 : decode cX3_tell 6 = .ok (.ifCond .eq 11, 3) := by decide +kernel
theorem dX3_tell_9 : decode cX3_tell 9 = .ok (.aload_n 0, 1) := by decide +kernel
theorem dX3_tell_10 : decode cX3_tell 10 = .ok (.iload_n 3, 1) := by decide +kernel
theorem dX3_tell_11 : decode cX3_tell 11 = .ok (.invokevirtual 85, 3) := by decide +kernel
theorem dX3_tell_14 : decode cX3_tell 14 = .ok (.ifCond .ne 7, 3) := by decide +kernel
theorem dX3_tell_17 : decode cX3_tell 17 = .ok (.iconst 1, 1) := by decide +kernel
theorem dX3_tell_18 : decode cX3_tell 18 = .ok (.goto 30, 3) := by decide +kernel
theorem dX3_tell_21 : decode cX3_tell 21 = .ok (.aload_n 0, 1) := by decide +kernel
theorem dX3_tell_22 : decode cX3_tell 22 = .ok (.iload_n 1, 1) := by decide +kernel
theorem dX3_tell_23 : decode cX3_tell 23 = .ok (.iload_n 2, 1) := by decide +kernel
theorem dX3_tell_24 : decode cX3_tell 24 = .ok (.invokevirtual 118, 3) := by decide +kernel
theorem dX3_tell_27 : decode cX3_tell 27 = .ok (.ifCond .ne 7, 3) := by decide +kernel
theorem dX3_tell_30 : decode cX3_tell 30 = .ok (.iconst 2, 1) := by decide +kernel
theorem dX3_tell_31 : decode cX3_tell 31 = .ok (.goto 17, 3) := by decide +kernel
theorem dX3_tell_34 : decode cX3_tell 34 = .ok (.aload_n 0, 1) := by decide +kernel
theorem dX3_tell_35 : decode cX3_tell 35 = .ok (.getfield 54, 3) := by decide +kernel
theorem dX3_tell_38 : decode cX3_tell 38 = .ok (.iload_n 1, 1) := by decide +kernel
theorem dX3_tell_39 : decode cX3_tell 39 = .ok (.baload, 1) := by decide +kernel
theorem dX3_tell_40 : decode cX3_tell 40 = .ok (.ifCond .eq 7, 3) := by decide +kernel
theorem dX3_tell_43 : decode cX3_tell 43 = .ok (.iconst 3, 1) := by decide +kernel
theorem dX3_tell_44 : decode cX3_tell 44 = .ok (.goto 4, 3) := by decide +kernel
theorem dX3_tell_47 : decode cX3_tell 47 = .ok (.iconst 0, 1) := by decide +kernel
theorem dX3_tell_48 : decode cX3_tell 48 = .ok (.putfield 60, 3) := by decide +kernel
theorem dX3_tell_51 : decode cX3_tell 51 = .ok (.aload_n 0, 1) := by decide +kernel
theorem dX3_tell_52 : decode cX3_tell 52 = .ok (.getfield 60, 3) := by decide +kernel
theorem dX3_tell_55 : decode cX3_tell 55 = .ok (.ifCond .ne 34, 3) := by decide +kernel
theorem dX3_tell_58 : decode cX3_tell 58 = .ok (.aload_n 0, 1) := by decide +kernel
theorem dX3_tell_59 : decode cX3_tell 59 = .ok (.getfield 39, 3) := by decide +kernel
theorem dX3_tell_62 : decode cX3_tell 62 = .ok (.iload_n 1, 1) := by decide +kernel
theorem dX3_tell_63 : decode cX3_tell 63 = .ok (.iaload, 1) := by decide +kernel
theorem dX3_tell_64 : decode cX3_tell 64 = .ok (.iload_n 3, 1) := by decide +kernel
theorem dX3_tell_65 : decode cX3_tell 65 = .ok (.ishr, 1) := by decide +kernel
theorem dX3_tell_66 : decode cX3_tell 66 = .ok (.iconst 1, 1) := by decide +kernel
theorem dX3_tell_67 : decode cX3_tell 67 = .ok (.iand, 1) := by decide +kernel
theorem dX3_tell_68 : decode cX3_tell 68 = .ok (.iconst 1, 1) := by decide +kernel
theorem dX3_tell_69 : decode cX3_tell 69 = .ok (.if_icmp .ne 20, 3) := by decide +kernel
theorem dX3_tell_72 : decode cX3_tell 72 = .ok (.aload_n 0, 1) := by decide +kernel
theorem dX3_tell_73 : decode cX3_tell 73 = .ok (.getfield 42, 3) := by decide +kernel
theorem dX3_tell_76 : decode cX3_tell 76 = .ok (.iload_n 1, 1) := by decide +kernel
theorem dX3_tell_77 : decode cX3_tell 77 = .ok (.iaload, 1) := by decide +kernel
theorem dX3_tell_78 : decode cX3_tell 78 = .ok (.iload_n 3, 1) := by decide +kernel
theorem dX3_tell_79 : decode cX3_tell 79 = .ok (.ishr, 1) := by decide +kernel
theorem dX3_tell_80 : decode cX3_tell 80 = .ok (.iconst 1, 1) := by decide +kernel
theorem dX3_tell_81 : decode cX3_tell 81 = .ok (.iand, 1) := by decide +kernel
theorem dX3_tell_82 : decode cX3_tell 82 = .ok (.ifCond .ne 7, 3) := by decide +kernel
theorem dX3_tell_85 : decode cX3_tell 85 = .ok (.iconst 1, 1) := by decide +kernel
theorem dX3_tell_86 : decode cX3_tell 86 = .ok (.goto 4, 3) := by decide +kernel
theorem dX3_tell_89 : decode cX3_tell 89 = .ok (.iconst 0, 1) := by decide +kernel
theorem dX3_tell_90 : decode cX3_tell 90 = .ok (.istore 4, 2) := by decide +kernel
theorem dX3_tell_92 : decode cX3_tell 92 = .ok (.iload 4, 2) := by decide +kernel
theorem dX3_tell_94 : decode cX3_tell 94 = .ok (.ifCond .eq 69, 3) := by decide +kernel
theorem dX3_tell_97 : decode cX3_tell 97 = .ok (.aload_n 0, 1) := by decide +kernel
theorem dX3_tell_98 : decode cX3_tell 98 = .ok (.getfield 42, 3) := by decide +kernel
theorem dX3_tell_101 : decode cX3_tell 101 = .ok (.iload_n 1, 1) := by decide +kernel
theorem dX3_tell_102 : decode cX3_tell 102 = .ok (.dup2, 1) := by decide +kernel
theorem dX3_tell_103 : decode cX3_tell 103 = .ok (.iaload, 1) := by decide +kernel
theorem dX3_tell_104 : decode cX3_tell 104 = .ok (.iconst 1, 1) := by decide +kernel
theorem dX3_tell_105 : decode cX3_tell 105 = .ok (.iload_n 3, 1) := by decide +kernel
theorem dX3_tell_106 : decode cX3_tell 106 = .ok (.ishl, 1) := by decide +kernel
theorem dX3_tell_107 : decode cX3_tell 107 = .ok (.ior, 1) := by decide +kernel
theorem dX3_tell_108 : decode cX3_tell 108 = .ok (.iastore, 1) := by decide +kernel
theorem dX3_tell_109 : decode cX3_tell 109 = .ok (.aload_n 0, 1) := by decide +kernel
theorem dX3_tell_110 : decode cX3_tell 110 = .ok (.getfield 45, 3) := by decide +kernel
theorem dX3_tell_113 : decode cX3_tell 113 = .ok (.iload_n 1, 1) := by decide +kernel
theorem dX3_tell_114 : decode cX3_tell 114 = .ok (.aload_n 0, 1) := by decide +kernel
theorem dX3_tell_115 : decode cX3_tell 115 = .ok (.getfield 45, 3) := by decide +kernel
theorem dX3_tell_118 : decode cX3_tell 118 = .ok (.iload_n 1, 1) := by decide +kernel
theorem dX3_tell_119 : decode cX3_tell 119 = .ok (.iaload, 1) := by decide +kernel
theorem dX3_tell_120 : decode cX3_tell 120 = .ok (.iconst (-1), 1) := by decide +kernel
theorem dX3_tell_121 : decode cX3_tell 121 = .ok (.if_icmp .ne 7, 3) := by decide +kernel
theorem dX3_tell_124 : decode cX3_tell 124 = .ok (.iload_n 2, 1) := by decide +kernel
theorem dX3_tell_125 : decode cX3_tell 125 = .ok (.goto 9, 3) := by decide +kernel
theorem dX3_tell_128 : decode cX3_tell 128 = .ok (.aload_n 0, 1) := by decide +kernel
theorem dX3_tell_129 : decode cX3_tell 129 = .ok (.getfield 45, 3) := by decide +kernel
theorem dX3_tell_132 : decode cX3_tell 132 = .ok (.iload_n 1, 1) := by decide +kernel
theorem dX3_tell_133 : decode cX3_tell 133 = .ok (.iaload, 1) := by decide +kernel
theorem dX3_tell_134 : decode cX3_tell 134 = .ok (.iastore, 1) := by decide +kernel
theorem dX3_tell_135 : decode cX3_tell 135 = .ok (.aload_n 0, 1) := by decide +kernel
theorem dX3_tell_136 : decode cX3_tell 136 = .ok (.getfield 48, 3) := by decide +kernel
theorem dX3_tell_139 : decode cX3_tell 139 = .ok (.iconst 2, 1) := by decide +kernel
theorem dX3_tell_140 : decode cX3_tell 140 = .ok (.iload_n 1, 1) := by decide +kernel
theorem dX3_tell_141 : decode cX3_tell 141 = .ok (.imul, 1) := by decide +kernel
theorem dX3_tell_142 : decode cX3_tell 142 = .ok (.iload_n 2, 1) := by decide +kernel
theorem dX3_tell_143 : decode cX3_tell 143 = .ok (.aload_n 0, 1) := by decide +kernel
theorem dX3_tell_144 : decode cX3_tell 144 = .ok (.getfield 33, 3) := by decide +kernel
theorem dX3_tell_147 : decode cX3_tell 147 = .ok (.iload_n 1, 1) := by decide +kernel
theorem dX3_tell_148 : decode cX3_tell 148 = .ok (.iaload, 1) := by decide +kernel
theorem dX3_tell_149 : decode cX3_tell 149 = .ok (.if_icmp .ne 7, 3) := by decide +kernel
theorem dX3_tell_152 : decode cX3_tell 152 = .ok (.iconst 0, 1) := by decide +kernel
theorem dX3_tell_153 : decode cX3_tell 153 = .ok (.goto 4, 3) := by decide +kernel
theorem dX3_tell_156 : decode cX3_tell 156 = .ok (.iconst 1, 1) := by decide +kernel
theorem dX3_tell_157 : decode cX3_tell 157 = .ok (.iadd, 1) := by decide +kernel
theorem dX3_tell_158 : decode cX3_tell 158 = .ok (.dup2, 1) := by decide +kernel
theorem dX3_tell_159 : decode cX3_tell 159 = .ok (.iaload, 1) := by decide +kernel
theorem dX3_tell_160 : decode cX3_tell 160 = .ok (.iconst 1, 1) := by decide +kernel
theorem dX3_tell_161 : decode cX3_tell 161 = .ok (.iadd, 1) := by decide +kernel
theorem dX3_tell_162 : decode cX3_tell 162 = .ok (.iastore, 1) := by decide +kernel
theorem dX3_tell_163 : decode cX3_tell 163 = .ok (.iload 4, 2) := by decide +kernel
theorem dX3_tell_165 : decode cX3_tell 165 = .ok (.ireturn, 1) := by decide +kernel
set_option maxRecDepth 20000 in
theorem ggX3_compensate_X3_isBidder : GoodIn wsX3_compensate wsX3_isBidder := goodIn_r _ [7, 8, 9, 6, 10] (by decide +kernel) (by decide +kernel)
set_option maxRecDepth 20000 in
theorem gX3_compensate_X3_isBidder : GoodIn wsX3_compensate (va_wsS RX3 73 yX3_isBidder wsX3_isBidder) := goodIn_app (goodIn_of _ (by decide +kernel)) ggX3_compensate_X3_isBidder
set_option maxRecDepth 20000 in
theorem ggX3_compensate_X3_in : GoodIn wsX3_compensate wsX3_in := goodIn_r _ [10] (by decide +kernel) (by decide +kernel)
set_option maxRecDepth 20000 in
theorem gX3_compensate_X3_in : GoodIn wsX3_compensate (va_wsS RX3 63 yX3_in wsX3_in) := goodIn_app (goodIn_of _ (by decide +kernel)) ggX3_compensate_X3_in
set_option maxRecDepth 20000 in
theorem ggX3_compensate_X3_fails : GoodIn wsX3_compensate wsX3_fails := goodIn_r _ [14, 1, 15, 16, 17, 18, 19, 20, 21, 22, 23, 24, 25, 26, 27, 28, 29, 30, 31, 32, 33] (by decide +kernel) (by decide +kernel)
set_option maxRecDepth 20000 in
theorem gX3_compensate_X3_fails : GoodIn wsX3_compensate (wsV RX3 77 RX3 yX3_fails wsX3_fails) := goodIn_app (goodIn_of _ (by decide +kernel)) ggX3_compensate_X3_fails
theorem dX3_compensate_0 : decode cX3_compensate 0 = .ok (.aload_n 0, 1) := by decide +kernel
theorem dX3_compensate_1 : decode cX3_compensate 1 = .ok (.iconst 0, 1) := by decide +kernel
theorem dX3_compensate_2 : decode cX3_compensate 2 = .ok (.putfield 60, 3) := by decide +kernel
theorem dX3_compensate_5 : decode cX3_compensate 5 = .ok (.iload_n 1, 1) := by decide +kernel
theorem dX3_compensate_6 : decode cX3_compensate 6 = .ok (.invokestatic 73, 3) := by decide +kernel
theorem dX3_compensate_9 : decode cX3_compensate 9 = .ok (.ifCond .eq 13, 3) := by decide +kernel
theorem dX3_compensate_12 : decode cX3_compensate 12 = .ok (.iload_n 2, 1) := by decide +kernel
theorem dX3_compensate_13 : decode cX3_compensate 13 = .ok (.iconst 1, 1) := by decide +kernel
theorem dX3_compensate_14 : decode cX3_compensate 14 = .ok (.ldc 88, 2) := by decide +kernel
theorem dX3_compensate_16 : decode cX3_compensate 16 = .ok (.invokestatic 63, 3) := by decide +kernel
theorem dX3_compensate_19 : decode cX3_compensate 19 = .ok (.ifCond .ne 9, 3) := by decide +kernel
theorem dX3_compensate_22 : decode cX3_compensate 22 = .ok (.aload_n 0, 1) := by decide +kernel
theorem dX3_compensate_23 : decode cX3_compensate 23 = .ok (.iconst 1, 1) := by decide +kernel
