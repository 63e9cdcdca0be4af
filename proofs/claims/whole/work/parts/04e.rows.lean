theorem dX3_compensate_24 : decode cX3_compensate 24 = .ok (.invokevirtual 77, 3) := by decide +kernel
theorem dX3_compensate_27 : decode cX3_compensate 27 = .ok (.ireturn, 1) := by decide +kernel
theorem dX3_compensate_28 : decode cX3_compensate 28 = .ok (.aload_n 0, 1) := by decide +kernel
theorem dX3_compensate_29 : decode cX3_compensate 29 = .ok (.getfield 57, 3) := by decide +kernel
theorem dX3_compensate_32 : decode cX3_compensate 32 = .ok (.iload_n 1, 1) := by decide +kernel
theorem dX3_compensate_33 : decode cX3_compensate 33 = .ok (.dup2, 1) := by decide +kernel
theorem dX3_compensate_34 : decode cX3_compensate 34 = .ok (.iaload, 1) := by decide +kernel
theorem dX3_compensate_35 : decode cX3_compensate 35 = .ok (.iload_n 2, 1) := by decide +kernel
theorem dX3_compensate_36 : decode cX3_compensate 36 = .ok (.iadd, 1) := by decide +kernel
theorem dX3_compensate_37 : decode cX3_compensate 37 = .ok (.iastore, 1) := by decide +kernel
theorem dX3_compensate_38 : decode cX3_compensate 38 = .ok (.aload_n 0, 1) := by decide +kernel
theorem dX3_compensate_39 : decode cX3_compensate 39 = .ok (.getfield 57, 3) := by decide +kernel
theorem dX3_compensate_42 : decode cX3_compensate 42 = .ok (.iload_n 1, 1) := by decide +kernel
theorem dX3_compensate_43 : decode cX3_compensate 43 = .ok (.iaload, 1) := by decide +kernel
theorem dX3_compensate_44 : decode cX3_compensate 44 = .ok (.ireturn, 1) := by decide +kernel
set_option maxRecDepth 20000 in
theorem ggX3_fineFor_X3_turnoverOf : GoodIn wsX3_fineFor wsX3_turnoverOf := goodIn_r _ [8, 9, 10, 11, 12, 13, 14, 15, 16, 7, 17, 18, 22, 23, 24, 25, 26, 27, 28, 29, 30, 31, 32, 33, 34, 35, 36, 37, 38, 39, 40] (by decide +kernel) (by decide +kernel)
set_option maxRecDepth 20000 in
theorem gX3_fineFor_X3_turnoverOf : GoodIn wsX3_fineFor (wsV RX3 95 RX3 yX3_turnoverOf wsX3_turnoverOf) := goodIn_app (goodIn_of _ (by decide +kernel)) ggX3_fineFor_X3_turnoverOf
set_option maxRecDepth 20000 in
theorem ggX3_fineFor_X3_count : GoodIn wsX3_fineFor wsX3_count := goodIn_r _ [21] (by decide +kernel) (by decide +kernel)
set_option maxRecDepth 20000 in
theorem gX3_fineFor_X3_count : GoodIn wsX3_fineFor (va_wsS RX3 115 yX3_count wsX3_count) := goodIn_app (goodIn_of _ (by decide +kernel)) ggX3_fineFor_X3_count
theorem dX3_fineFor_0 : decode cX3_fineFor 0 = .ok (.aload_n 0, 1) := by decide +kernel
theorem dX3_fineFor_1 : decode cX3_fineFor 1 = .ok (.iload_n 2, 1) := by decide +kernel
theorem dX3_fineFor_2 : decode cX3_fineFor 2 = .ok (.invokevirtual 95, 3) := by decide +kernel
theorem dX3_fineFor_5 : decode cX3_fineFor 5 = .ok (.bipush 10, 2) := by decide +kernel
theorem dX3_fineFor_7 : decode cX3_fineFor 7 = .ok (.idiv, 1) := by decide +kernel
theorem dX3_fineFor_8 : decode cX3_fineFor 8 = .ok (.istore 4, 2) := by decide +kernel
theorem dX3_fineFor_10 : decode cX3_fineFor 10 = .ok (.aload_n 0, 1) := by decide +kernel
theorem dX3_fineFor_11 : decode cX3_fineFor 11 = .ok (.getfield 45, 3) := by decide +kernel
theorem dX3_fineFor_14 : decode cX3_fineFor 14 = .ok (.iload_n 1, 1) := by decide +kernel
theorem dX3_fineFor_15 : decode cX3_fineFor 15 = .ok (.iaload, 1) := by decide +kernel
theorem dX3_fineFor_16 : decode cX3_fineFor 16 = .ok (.iload_n 2, 1) := by decide +kernel
theorem dX3_fineFor_17 : decode cX3_fineFor 17 = .ok (.if_icmp .eq 21, 3) := by decide +kernel
theorem dX3_fineFor_20 : decode cX3_fineFor 20 = .ok (.iload 4, 2) := by decide +kernel
theorem dX3_fineFor_22 : decode cX3_fineFor 22 = .ok (.iload_n 3, 1) := by decide +kernel
theorem dX3_fineFor_23 : decode cX3_fineFor 23 = .ok (.ifCond .le 10, 3) := by decide +kernel
theorem dX3_fineFor_26 : decode cX3_fineFor 26 = .ok (.iload 4, 2) := by decide +kernel
theorem dX3_fineFor_28 : decode cX3_fineFor 28 = .ok (.iconst 4, 1) := by decide +kernel
theorem dX3_fineFor_29 : decode cX3_fineFor 29 = .ok (.idiv, 1) := by decide +kernel
theorem dX3_fineFor_30 : decode cX3_fineFor 30 = .ok (.goto 4, 3) := by decide +kernel
theorem dX3_fineFor_33 : decode cX3_fineFor 33 = .ok (.iconst 0, 1) := by decide +kernel
theorem dX3_fineFor_34 : decode cX3_fineFor 34 = .ok (.isub, 1) := by decide +kernel
theorem dX3_fineFor_35 : decode cX3_fineFor 35 = .ok (.goto 26, 3) := by decide +kernel
theorem dX3_fineFor_38 : decode cX3_fineFor 38 = .ok (.iconst 2, 1) := by decide +kernel
theorem dX3_fineFor_39 : decode cX3_fineFor 39 = .ok (.iload_n 3, 1) := by decide +kernel
theorem dX3_fineFor_40 : decode cX3_fineFor 40 = .ok (.imul, 1) := by decide +kernel
theorem dX3_fineFor_41 : decode cX3_fineFor 41 = .ok (.aload_n 0, 1) := by decide +kernel
theorem dX3_fineFor_42 : decode cX3_fineFor 42 = .ok (.getfield 39, 3) := by decide +kernel
theorem dX3_fineFor_45 : decode cX3_fineFor 45 = .ok (.iload_n 1, 1) := by decide +kernel
theorem dX3_fineFor_46 : decode cX3_fineFor 46 = .ok (.iaload, 1) := by decide +kernel
theorem dX3_fineFor_47 : decode cX3_fineFor 47 = .ok (.invokestatic 115, 3) := by decide +kernel
theorem dX3_fineFor_50 : decode cX3_fineFor 50 = .ok (.if_icmp .lt 7, 3) := by decide +kernel
theorem dX3_fineFor_53 : decode cX3_fineFor 53 = .ok (.iconst 0, 1) := by decide +kernel
theorem dX3_fineFor_54 : decode cX3_fineFor 54 = .ok (.goto 7, 3) := by decide +kernel
theorem dX3_fineFor_57 : decode cX3_fineFor 57 = .ok (.iload 4, 2) := by decide +kernel
theorem dX3_fineFor_59 : decode cX3_fineFor 59 = .ok (.iconst 2, 1) := by decide +kernel
theorem dX3_fineFor_60 : decode cX3_fineFor 60 = .ok (.idiv, 1) := by decide +kernel
theorem dX3_fineFor_61 : decode cX3_fineFor 61 = .ok (.istore 5, 2) := by decide +kernel
theorem dX3_fineFor_63 : decode cX3_fineFor 63 = .ok (.aload_n 0, 1) := by decide +kernel
theorem dX3_fineFor_64 : decode cX3_fineFor 64 = .ok (.getfield 57, 3) := by decide +kernel
theorem dX3_fineFor_67 : decode cX3_fineFor 67 = .ok (.iload_n 2, 1) := by decide +kernel
theorem dX3_fineFor_68 : decode cX3_fineFor 68 = .ok (.iaload, 1) := by decide +kernel
theorem dX3_fineFor_69 : decode cX3_fineFor 69 = .ok (.iload 5, 2) := by decide +kernel
theorem dX3_fineFor_71 : decode cX3_fineFor 71 = .ok (.if_icmp .ge 12, 3) := by decide +kernel
theorem dX3_fineFor_74 : decode cX3_fineFor 74 = .ok (.aload_n 0, 1) := by decide +kernel
theorem dX3_fineFor_75 : decode cX3_fineFor 75 = .ok (.getfield 57, 3) := by decide +kernel
theorem dX3_fineFor_78 : decode cX3_fineFor 78 = .ok (.iload_n 2, 1) := by decide +kernel
theorem dX3_fineFor_79 : decode cX3_fineFor 79 = .ok (.iaload, 1) := by decide +kernel
theorem dX3_fineFor_80 : decode cX3_fineFor 80 = .ok (.goto 5, 3) := by decide +kernel
theorem dX3_fineFor_83 : decode cX3_fineFor 83 = .ok (.iload 5, 2) := by decide +kernel
theorem dX3_fineFor_85 : decode cX3_fineFor 85 = .ok (.istore 6, 2) := by decide +kernel
theorem dX3_fineFor_87 : decode cX3_fineFor 87 = .ok (.aload_n 0, 1) := by decide +kernel
theorem dX3_fineFor_88 : decode cX3_fineFor 88 = .ok (.getfield 57, 3) := by decide +kernel
theorem dX3_fineFor_91 : decode cX3_fineFor 91 = .ok (.iload_n 2, 1) := by decide +kernel
theorem dX3_fineFor_92 : decode cX3_fineFor 92 = .ok (.dup2, 1) := by decide +kernel
theorem dX3_fineFor_93 : decode cX3_fineFor 93 = .ok (.iaload, 1) := by decide +kernel
theorem dX3_fineFor_94 : decode cX3_fineFor 94 = .ok (.iload 6, 2) := by decide +kernel
theorem dX3_fineFor_96 : decode cX3_fineFor 96 = .ok (.isub, 1) := by decide +kernel
theorem dX3_fineFor_97 : decode cX3_fineFor 97 = .ok (.iastore, 1) := by decide +kernel
theorem dX3_fineFor_98 : decode cX3_fineFor 98 = .ok (.iload 5, 2) := by decide +kernel
theorem dX3_fineFor_100 : decode cX3_fineFor 100 = .ok (.iload 6, 2) := by decide +kernel
theorem dX3_fineFor_102 : decode cX3_fineFor 102 = .ok (.isub, 1) := by decide +kernel
theorem dX3_fineFor_103 : decode cX3_fineFor 103 = .ok (.ireturn, 1) := by decide +kernel
set_option maxRecDepth 20000 in
theorem ggX3_close_X3_isFile : GoodIn wsX3_close wsX3_isFile := goodIn_r _ [11, 12, 13, 14, 10, 15, 44, 45, 46, 47, 48, 49, 50, 51, 52, 53, 54, 55, 56, 57, 58, 59, 60, 61, 62] (by decide +kernel) (by decide +kernel)
set_option maxRecDepth 20000 in
theorem gX3_close_X3_isFile : GoodIn wsX3_close (wsV RX3 112 RX3 yX3_isFile wsX3_isFile) := goodIn_app (goodIn_of _ (by decide +kernel)) ggX3_close_X3_isFile
set_option maxRecDepth 20000 in
theorem ggX3_close_X3_fails : GoodIn wsX3_close wsX3_fails := goodIn_r _ [19, 1, 44, 45, 46, 47, 48, 49, 50, 51, 52, 53, 54, 55, 56, 57, 58, 59, 60, 61, 62] (by decide +kernel) (by decide +kernel)
set_option maxRecDepth 20000 in
theorem gX3_close_X3_fails : GoodIn wsX3_close (wsV RX3 77 RX3 yX3_fails wsX3_fails) := goodIn_app (goodIn_of _ (by decide +kernel)) ggX3_close_X3_fails
set_option maxRecDepth 20000 in
theorem ggX3_close_X3_fineFor : GoodIn wsX3_close wsX3_fineFor := goodIn_r _ [23, 24, 25, 26, 27, 28, 29, 10, 30, 31, 32, 33, 34, 35, 36, 37, 38, 39, 40, 41, 42, 43, 44, 45, 46, 47, 48, 49, 50, 51, 52, 53, 54, 55, 56, 57, 58, 59, 60, 61, 62] (by decide +kernel) (by decide +kernel)
set_option maxRecDepth 20000 in
theorem gX3_close_X3_fineFor : GoodIn wsX3_close (wsV RX3 121 RX3 yX3_fineFor wsX3_fineFor) := goodIn_app (goodIn_of _ (by decide +kernel)) ggX3_close_X3_fineFor
theorem dX3_close_0 : decode cX3_close 0 = .ok (.aload_n 0, 1) := by decide +kernel
theorem dX3_close_1 : decode cX3_close 1 = .ok (.iconst 0, 1) := by decide +kernel
theorem dX3_close_2 : decode cX3_close 2 = .ok (.putfield 60, 3) := by decide +kernel
theorem dX3_close_5 : decode cX3_close 5 = .ok (.aload_n 0, 1) := by decide +kernel
theorem dX3_close_6 : decode cX3_close 6 = .ok (.iload_n 1, 1) := by decide +kernel
theorem dX3_close_7 : decode cX3_close 7 = .ok (.invokevirtual 112, 3) := by decide +kernel
theorem dX3_close_10 : decode cX3_close 10 = .ok (.ifCond .ne 9, 3) := by decide +kernel
theorem dX3_close_13 : decode cX3_close 13 = .ok (.aload_n 0, 1) := by decide +kernel
theorem dX3_close_14 : decode cX3_close 14 = .ok (.iconst 1, 1) := by decide +kernel
theorem dX3_close_15 : decode cX3_close 15 = .ok (.invokevirtual 77, 3) := by decide +kernel
theorem dX3_close_18 : decode cX3_close 18 = .ok (.ireturn, 1) := by decide +kernel
theorem dX3_close_19 : decode cX3_close 19 = .ok (.aload_n 0, 1) := by decide +kernel
theorem dX3_close_20 : decode cX3_close 20 = .ok (.getfield 54, 3) := by decide +kernel
theorem dX3_close_23 : decode cX3_close 23 = .ok (.iload_n 1, 1) := by decide +kernel
theorem dX3_close_24 : decode cX3_close 24 = .ok (.baload, 1) := by decide +kernel
theorem dX3_close_25 : decode cX3_close 25 = .ok (.ifCond .eq 9, 3) := by decide +kernel
theorem dX3_close_28 : decode cX3_close 28 = .ok (.aload_n 0, 1) := by decide +kernel
theorem dX3_close_29 : decode cX3_close 29 = .ok (.iconst 2, 1) := by decide +kernel
theorem dX3_close_30 : decode cX3_close 30 = .ok (.invokevirtual 77, 3) := by decide +kernel
theorem dX3_close_33 : decode cX3_close 33 = .ok (.ireturn, 1) := by decide +kernel
theorem dX3_close_34 : decode cX3_close 34 = .ok (.aload_n 0, 1) := by decide +kernel
theorem dX3_close_35 : decode cX3_close 35 = .ok (.getfield 51, 3) := by decide +kernel
theorem dX3_close_38 : decode cX3_close 38 = .ok (.iconst 2, 1) := by decide +kernel
theorem dX3_close_39 : decode cX3_close 39 = .ok (.iload_n 1, 1) := by decide +kernel
theorem dX3_close_40 : decode cX3_close 40 = .ok (.imul, 1) := by decide +kernel
theorem dX3_close_41 : decode cX3_close 41 = .ok (.aload_n 0, 1) := by decide +kernel
theorem dX3_close_42 : decode cX3_close 42 = .ok (.iload_n 1, 1) := by decide +kernel
theorem dX3_close_43 : decode cX3_close 43 = .ok (.aload_n 0, 1) := by decide +kernel
theorem dX3_close_44 : decode cX3_close 44 = .ok (.getfield 33, 3) := by decide +kernel
theorem dX3_close_47 : decode cX3_close 47 = .ok (.iload_n 1, 1) := by decide +kernel
theorem dX3_close_48 : decode cX3_close 48 = .ok (.iaload, 1) := by decide +kernel
theorem dX3_close_49 : decode cX3_close 49 = .ok (.aload_n 0, 1) := by decide +kernel
theorem dX3_close_50 : decode cX3_close 50 = .ok (.getfield 48, 3) := by decide +kernel
theorem dX3_close_53 : decode cX3_close 53 = .ok (.iconst 2, 1) := by decide +kernel
theorem dX3_close_54 : decode cX3_close 54 = .ok (.iload_n 1, 1) := by decide +kernel
theorem dX3_close_55 : decode cX3_close 55 = .ok (.imul, 1) := by decide +kernel
theorem dX3_close_56 : decode cX3_close 56 = .ok (.iaload, 1) := by decide +kernel
theorem dX3_close_57 : decode cX3_close 57 = .ok (.invokevirtual 121, 3) := by decide +kernel
theorem dX3_close_60 : decode cX3_close 60 = .ok (.iastore, 1) := by decide +kernel
theorem dX3_close_61 : decode cX3_close 61 = .ok (.aload_n 0, 1) := by decide +kernel
theorem dX3_close_62 : decode cX3_close 62 = .ok (.getfield 51, 3) := by decide +kernel
theorem dX3_close_65 : decode cX3_close 65 = .ok (.iconst 2, 1) := by decide +kernel
theorem dX3_close_66 : decode cX3_close 66 = .ok (.iload_n 1, 1) := by decide +kernel
theorem dX3_close_67 : decode cX3_close 67 = .ok (.imul, 1) := by decide +kernel
theorem dX3_close_68 : decode cX3_close 68 = .ok (.iconst 1, 1) := by decide +kernel
theorem dX3_close_69 : decode cX3_close 69 = .ok (.iadd, 1) := by decide +kernel
theorem dX3_close_70 : decode cX3_close 70 = .ok (.aload_n 0, 1) := by decide +kernel
theorem dX3_close_71 : decode cX3_close 71 = .ok (.iload_n 1, 1) := by decide +kernel
theorem dX3_close_72 : decode cX3_close 72 = .ok (.aload_n 0, 1) := by decide +kernel
theorem dX3_close_73 : decode cX3_close 73 = .ok (.getfield 36, 3) := by decide +kernel
theorem dX3_close_76 : decode cX3_close 76 = .ok (.iload_n 1, 1) := by decide +kernel
theorem dX3_close_77 : decode cX3_close 77 = .ok (.iaload, 1) := by decide +kernel
theorem dX3_close_78 : decode cX3_close 78 = .ok (.aload_n 0, 1) := by decide +kernel
theorem dX3_close_79 : decode cX3_close 79 = .ok (.getfield 48, 3) := by decide +kernel
theorem dX3_close_82 : decode cX3_close 82 = .ok (.iconst 2, 1) := by decide +kernel
theorem dX3_close_83 : decode cX3_close 83 = .ok (.iload_n 1, 1) := by decide +kernel
theorem dX3_close_84 : decode cX3_close 84 = .ok (.imul, 1) := by decide +kernel
theorem dX3_close_85 : decode cX3_close 85 = .ok (.iconst 1, 1) := by decide +kernel
theorem dX3_close_86 : decode cX3_close 86 = .ok (.iadd, 1) := by decide +kernel
theorem dX3_close_87 : decode cX3_close 87 = .ok (.iaload, 1) := by decide +kernel
theorem dX3_close_88 : decode cX3_close 88 = .ok (.invokevirtual 121, 3) := by decide +kernel
theorem dX3_close_91 : decode cX3_close 91 = .ok (.iastore, 1) := by decide +kernel
theorem dX3_close_92 : decode cX3_close 92 = .ok (.aload_n 0, 1) := by decide +kernel
theorem dX3_close_93 : decode cX3_close 93 = .ok (.getfield 54, 3) := by decide +kernel
theorem dX3_close_96 : decode cX3_close 96 = .ok (.iload_n 1, 1) := by decide +kernel
theorem dX3_close_97 : decode cX3_close 97 = .ok (.iconst 1, 1) := by decide +kernel
theorem dX3_close_98 : decode cX3_close 98 = .ok (.bastore, 1) := by decide +kernel
theorem dX3_close_99 : decode cX3_close 99 = .ok (.aload_n 0, 1) := by decide +kernel
theorem dX3_close_100 : decode cX3_close 100 = .ok (.getfield 51, 3) := by decide +kernel
theorem dX3_close_103 : decode cX3_close 103 = .ok (.iconst 2, 1) := by decide +kernel
theorem dX3_close_104 : decode cX3_close 104 = .ok (.iload_n 1, 1) := by decide +kernel
theorem dX3_close_105 : decode cX3_close 105 = .ok (.imul, 1) := by decide +kernel
theorem dX3_close_106 : decode cX3_close 106 = .ok (.iaload, 1) := by decide +kernel
theorem dX3_close_107 : decode cX3_close 107 = .ok (.aload_n 0, 1) := by decide +kernel
theorem dX3_close_108 : decode cX3_close 108 = .ok (.getfield 51, 3) := by decide +kernel
theorem dX3_close_111 : decode cX3_close 111 = .ok (.iconst 2, 1) := by decide +kernel
theorem dX3_close_112 : decode cX3_close 112 = .ok (.iload_n 1, 1) := by decide +kernel
theorem dX3_close_113 : decode cX3_close 113 = .ok (.imul, 1) := by decide +kernel
theorem dX3_close_114 : decode cX3_close 114 = .ok (.iconst 1, 1) := by decide +kernel
theorem dX3_close_115 : decode cX3_close 115 = .ok (.iadd, 1) := by decide +kernel
theorem dX3_close_116 : decode cX3_close 116 = .ok (.iaload, 1) := by decide +kernel
theorem dX3_close_117 : decode cX3_close 117 = .ok (.iadd, 1) := by decide +kernel
theorem dX3_close_118 : decode cX3_close 118 = .ok (.ireturn, 1) := by decide +kernel
set_option maxRecDepth 20000 in
theorem ggX3_fine_X3_isFile : GoodIn wsX3_fine wsX3_isFile := goodIn_r _ [8, 9, 10, 11, 7, 12, 22, 23, 24, 25, 26, 27, 28, 29, 30, 31, 32, 33, 34, 35, 36, 37, 38, 39, 40] (by decide +kernel) (by decide +kernel)
set_option maxRecDepth 20000 in
theorem gX3_fine_X3_isFile : GoodIn wsX3_fine (wsV RX3 112 RX3 yX3_isFile wsX3_isFile) := goodIn_app (goodIn_of _ (by decide +kernel)) ggX3_fine_X3_isFile
set_option maxRecDepth 20000 in
theorem ggX3_fine_X3_fails : GoodIn wsX3_fine wsX3_fails := goodIn_r _ [16, 1, 22, 23, 24, 25, 26, 27, 28, 29, 30, 31, 32, 33, 34, 35, 36, 37, 38, 39, 40] (by decide +kernel) (by decide +kernel)
set_option maxRecDepth 20000 in
theorem gX3_fine_X3_fails : GoodIn wsX3_fine (wsV RX3 77 RX3 yX3_fails wsX3_fails) := goodIn_app (goodIn_of _ (by decide +kernel)) ggX3_fine_X3_fails
set_option maxRecDepth 20000 in
theorem ggX3_fine_X3_isOf : GoodIn wsX3_fine wsX3_isOf := goodIn_r _ [20, 3, 21, 22, 23, 24, 25, 26, 27, 28, 29, 30, 31, 32, 33, 34, 35, 36, 37, 38, 39, 40] (by decide +kernel) (by decide +kernel)
set_option maxRecDepth 20000 in
theorem gX3_fine_X3_isOf : GoodIn wsX3_fine (wsV RX3 118 RX3 yX3_isOf wsX3_isOf) := goodIn_app (goodIn_of _ (by decide +kernel)) ggX3_fine_X3_isOf
theorem dX3_fine_0 : decode cX3_fine 0 = .ok (.aload_n 0, 1) := by decide +kernel
theorem dX3_fine_1 : decode cX3_fine 1 = .ok (.iconst 0, 1) := by decide +kernel
theorem dX3_fine_2 : decode cX3_fine 2 = .ok (.putfield 60, 3) := by decide +kernel
theorem dX3_fine_5 : decode cX3_fine 5 = .ok (.aload_n 0, 1) := by decide +kernel
theorem dX3_fine_6 : decode cX3_fine 6 = .ok (.iload_n 1, 1) := by decide +kernel
theorem dX3_fine_7 : decode cX3_fine 7 = .ok (.invokevirtual 112, 3) := by decide +kernel
theorem dX3_fine_10 : decode cX3_fine 10 = .ok (.ifCond .ne 9, 3) := by decide +kernel
theorem dX3_fine_13 : decode cX3_fine 13 = .ok (.aload_n 0, 1) := by decide +kernel
theorem dX3_fine_14 : decode cX3_fine 14 = .ok (.iconst 1, 1) := by decide +kernel
theorem dX3_fine_15 : decode cX3_fine 15 = .ok (.invokevirtual 77, 3) := by decide +kernel
theorem dX3_fine_18 : decode cX3_fine 18 = .ok (.ireturn, 1) := by decide +kernel
theorem dX3_fine_19 : decode cX3_fine 19 = .ok (.aload_n 0, 1) := by decide +kernel
theorem dX3_fine_20 : decode cX3_fine 20 = .ok (.iload_n 1, 1) := by decide +kernel
theorem dX3_fine_21 : decode cX3_fine 21 = .ok (.iload_n 2, 1) := by decide +kernel
theorem dX3_fine_22 : decode cX3_fine 22 = .ok (.invokevirtual 118, 3) := by decide +kernel
theorem dX3_fine_25 : decode cX3_fine 25 = .ok (.ifCond .eq 30, 3) := by decide +kernel
theorem dX3_fine_28 : decode cX3_fine 28 = .ok (.aload_n 0, 1) := by decide +kernel
theorem dX3_fine_29 : decode cX3_fine 29 = .ok (.getfield 51, 3) := by decide +kernel
theorem dX3_fine_32 : decode cX3_fine 32 = .ok (.iconst 2, 1) := by decide +kernel
theorem dX3_fine_33 : decode cX3_fine 33 = .ok (.iload_n 1, 1) := by decide +kernel
theorem dX3_fine_34 : decode cX3_fine 34 = .ok (.imul, 1) := by decide +kernel
theorem dX3_fine_35 : decode cX3_fine 35 = .ok (.iload_n 2, 1) := by decide +kernel
theorem dX3_fine_36 : decode cX3_fine 36 = .ok (.aload_n 0, 1) := by decide +kernel
theorem dX3_fine_37 : decode cX3_fine 37 = .ok (.getfield 33, 3) := by decide +kernel
theorem dX3_fine_40 : decode cX3_fine 40 = .ok (.iload_n 1, 1) := by decide +kernel
theorem dX3_fine_41 : decode cX3_fine 41 = .ok (.iaload, 1) := by decide +kernel
theorem dX3_fine_42 : decode cX3_fine 42 = .ok (.if_icmp .ne 7, 3) := by decide +kernel
theorem dX3_fine_45 : decode cX3_fine 45 = .ok (.iconst 0, 1) := by decide +kernel
theorem dX3_fine_46 : decode cX3_fine 46 = .ok (.goto 4, 3) := by decide +kernel
theorem dX3_fine_49 : decode cX3_fine 49 = .ok (.iconst 1, 1) := by decide +kernel
theorem dX3_fine_50 : decode cX3_fine 50 = .ok (.iadd, 1) := by decide +kernel
theorem dX3_fine_51 : decode cX3_fine 51 = .ok (.iaload, 1) := by decide +kernel
theorem dX3_fine_52 : decode cX3_fine 52 = .ok (.goto 8, 3) := by decide +kernel
theorem dX3_fine_55 : decode cX3_fine 55 = .ok (.aload_n 0, 1) := by decide +kernel
theorem dX3_fine_56 : decode cX3_fine 56 = .ok (.iconst 2, 1) := by decide +kernel
theorem dX3_fine_57 : decode cX3_fine 57 = .ok (.invokevirtual 77, 3) := by decide +kernel
theorem dX3_fine_60 : decode cX3_fine 60 = .ok (.ireturn, 1) := by decide +kernel
set_option maxRecDepth 20000 in
theorem ggX3_firstTeller_X3_isFile : GoodIn wsX3_firstTeller wsX3_isFile := goodIn_r _ [7, 8, 9, 10, 6, 11, 16, 17, 18, 19, 20, 21, 22, 23, 24, 25, 26, 27, 28, 29, 30, 31, 32, 33, 34] (by decide +kernel) (by decide +kernel)
set_option maxRecDepth 20000 in
theorem gX3_firstTeller_X3_isFile : GoodIn wsX3_firstTeller (wsV RX3 112 RX3 yX3_isFile wsX3_isFile) := goodIn_app (goodIn_of _ (by decide +kernel)) ggX3_firstTeller_X3_isFile
set_option maxRecDepth 20000 in
theorem ggX3_firstTeller_X3_fails : GoodIn wsX3_firstTeller wsX3_fails := goodIn_r _ [15, 1, 16, 17, 18, 19, 20, 21, 22, 23, 24, 25, 26, 27, 28, 29, 30, 31, 32, 33, 34] (by decide +kernel) (by decide +kernel)
set_option maxRecDepth 20000 in
theorem gX3_firstTeller_X3_fails : GoodIn wsX3_firstTeller (wsV RX3 77 RX3 yX3_fails wsX3_fails) := goodIn_app (goodIn_of _ (by decide +kernel)) ggX3_firstTeller_X3_fails
theorem dX3_firstTeller_0 : decode cX3_firstTeller 0 = .ok (.aload_n 0, 1) := by decide +kernel
theorem dX3_firstTeller_1 : decode cX3_firstTeller 1 = .ok (.iconst 0, 1) := by decide +kernel
theorem dX3_firstTeller_2 : decode cX3_firstTeller 2 = .ok (.putfield 60, 3) := by decide +kernel
theorem dX3_firstTeller_5 : decode cX3_firstTeller 5 = .ok (.aload_n 0, 1) := by decide +kernel
theorem dX3_firstTeller_6 : decode cX3_firstTeller 6 = .ok (.iload_n 1, 1) := by decide +kernel
theorem dX3_firstTeller_7 : decode cX3_firstTeller 7 = .ok (.invokevirtual 112, 3) := by decide +kernel
theorem dX3_firstTeller_10 : decode cX3_firstTeller 10 = .ok (.ifCond .eq 12, 3) := by decide +kernel
theorem dX3_firstTeller_13 : decode cX3_firstTeller 13 = .ok (.aload_n 0, 1) := by decide +kernel
theorem dX3_firstTeller_14 : decode cX3_firstTeller 14 = .ok (.getfield 45, 3) := by decide +kernel
theorem dX3_firstTeller_17 : decode cX3_firstTeller 17 = .ok (.iload_n 1, 1) := by decide +kernel
theorem dX3_firstTeller_18 : decode cX3_firstTeller 18 = .ok (.iaload, 1) := by decide +kernel
theorem dX3_firstTeller_19 : decode cX3_firstTeller 19 = .ok (.goto 8, 3) := by decide +kernel
theorem dX3_firstTeller_22 : decode cX3_firstTeller 22 = .ok (.aload_n 0, 1) := by decide +kernel
theorem dX3_firstTeller_23 : decode cX3_firstTeller 23 = .ok (.iconst 1, 1) := by decide +kernel
theorem dX3_firstTeller_24 : decode cX3_firstTeller 24 = .ok (.invokevirtual 77, 3) := by decide +kernel
theorem dX3_firstTeller_27 : decode cX3_firstTeller 27 = .ok (.ireturn, 1) := by decide +kernel
theorem dJ9_min_7cf53_0 : decode cJ9_min_7cf53 0 = .ok (.iload_n 0, 1) := by decide +kernel
theorem dJ9_min_7cf53_1 : decode cJ9_min_7cf53 1 = .ok (.iload_n 1, 1) := by decide +kernel
theorem dJ9_min_7cf53_2 : decode cJ9_min_7cf53 2 = .ok (.if_icmp .gt 7, 3) := by decide +kernel
theorem dJ9_min_7cf53_5 : decode cJ9_min_7cf53 5 = .ok (.iload_n 0, 1) := by decide +kernel
theorem dJ9_min_7cf53_6 : decode cJ9_min_7cf53 6 = .ok (.goto 4, 3) := by decide +kernel
theorem dJ9_min_7cf53_9 : decode cJ9_min_7cf53 9 = .ok (.iload_n 1, 1) := by decide +kernel
theorem dJ9_min_7cf53_10 : decode cJ9_min_7cf53 10 = .ok (.ireturn, 1) := by decide +kernel
set_option maxRecDepth 20000 in
theorem ggL_open_X2_open : GoodIn wsL_open wsX2_open := goodIn_ca (goodIn_r _ [6, 7, 8, 9, 10, 11, 12, 13, 14, 15, 16, 17, 18, 19, 20, 21, 22, 23, 24, 25, 26, 27, 28, 29, 30, 31, 32, 33, 34, 35, 36, 37, 38] (by decide +kernel) (by decide +kernel)) (goodIn_sub (fun _ h => List.mem_cons_of_mem _ (List.mem_append_right _ h)) (by decide +kernel))
set_option maxRecDepth 20000 in
theorem gL_open_X2_open : GoodIn wsL_open (wsV RL 7 RX2 yX2_open wsX2_open) := goodIn_app (goodIn_of _ (by decide +kernel)) ggL_open_X2_open
theorem dL_open_0 : decode cL_open 0 = .ok (.aload_n 1, 1) := by decide +kernel
theorem dL_open_1 : decode cL_open 1 = .ok (.iconst 0, 1) := by decide +kernel
theorem dL_open_2 : decode cL_open 2 = .ok (.aload_n 0, 1) := by decide +kernel
theorem dL_open_3 : decode cL_open 3 = .ok (.invokevirtual 7, 3) := by decide +kernel
theorem dL_open_6 : decode cL_open 6 = .ok (.i2l, 1) := by decide +kernel
theorem dL_open_7 : decode cL_open 7 = .ok (.lastore, 1) := by decide +kernel
theorem dL_open_8 : decode cL_open 8 = .ok (.goto 6, 3) := by decide +kernel
theorem dL_open_11 : decode cL_open 11 = .ok (.astore_n 2, 1) := by decide +kernel
theorem dL_open_12 : decode cL_open 12 = .ok (.iconst 1, 1) := by decide +kernel
theorem dL_open_13 : decode cL_open 13 = .ok (.ireturn, 1) := by decide +kernel
theorem dL_open_14 : decode cL_open 14 = .ok (.iconst 0, 1) := by decide +kernel
theorem dL_open_15 : decode cL_open 15 = .ok (.ireturn, 1) := by decide +kernel
set_option maxRecDepth 20000 in
theorem ggL_bid_X2_bid : GoodIn wsL_bid wsX2_bid := goodIn_ca (goodIn_ca (goodIn_ca (goodIn_r _ [8, 9, 10, 11, 12, 13, 14, 15, 16, 17, 7, 18, 19, 20, 21, 22, 23, 24, 25, 26, 27, 28, 29, 30, 31, 32, 33, 34, 35, 36, 37, 38, 39, 40, 41, 42, 43, 44, 45, 46, 47, 48, 49, 50, 51, 52, 53, 54, 55, 56, 57, 58, 59, 60, 61, 62] (by decide +kernel) (by decide +kernel)) (goodIn_sub (fun _ h => List.mem_cons_of_mem _ (List.mem_append_left _ (List.mem_append_left _ (List.mem_append_right _ h)))) (by decide +kernel))) (goodIn_sub (fun _ h => List.mem_cons_of_mem _ (List.mem_append_left _ (List.mem_append_right _ h))) (by decide +kernel))) (goodIn_sub (fun _ h => List.mem_cons_of_mem _ (List.mem_append_right _ h)) (by decide +kernel))
set_option maxRecDepth 20000 in
theorem gL_bid_X2_bid : GoodIn wsL_bid (wsV RL 15 RX2 yX2_bid wsX2_bid) := goodIn_app (goodIn_of _ (by decide +kernel)) ggL_bid_X2_bid
theorem dL_bid_0 : decode cL_bid 0 = .ok (.aload 4, 2) := by decide +kernel
theorem dL_bid_2 : decode cL_bid 2 = .ok (.iconst 0, 1) := by decide +kernel
theorem dL_bid_3 : decode cL_bid 3 = .ok (.aload_n 0, 1) := by decide +kernel
theorem dL_bid_4 : decode cL_bid 4 = .ok (.iload_n 1, 1) := by decide +kernel
theorem dL_bid_5 : decode cL_bid 5 = .ok (.iload_n 2, 1) := by decide +kernel
theorem dL_bid_6 : decode cL_bid 6 = .ok (.iload_n 3, 1) := by decide +kernel
theorem dL_bid_7 : decode cL_bid 7 = .ok (.invokevirtual 15, 3) := by decide +kernel
theorem dL_bid_10 : decode cL_bid 10 = .ok (.i2l, 1) := by decide +kernel
theorem dL_bid_11 : decode cL_bid 11 = .ok (.lastore, 1) := by decide +kernel
theorem dL_bid_12 : decode cL_bid 12 = .ok (.goto 15, 3) := by decide +kernel
theorem dL_bid_15 : decode cL_bid 15 = .ok (.astore 5, 2) := by decide +kernel
theorem dL_bid_17 : decode cL_bid 17 = .ok (.iconst 1, 1) := by decide +kernel
theorem dL_bid_18 : decode cL_bid 18 = .ok (.ireturn, 1) := by decide +kernel
theorem dL_bid_19 : decode cL_bid 19 = .ok (.astore 5, 2) := by decide +kernel
theorem dL_bid_21 : decode cL_bid 21 = .ok (.iconst 2, 1) := by decide +kernel
theorem dL_bid_22 : decode cL_bid 22 = .ok (.ireturn, 1) := by decide +kernel
theorem dL_bid_23 : decode cL_bid 23 = .ok (.astore 5, 2) := by decide +kernel
theorem dL_bid_25 : decode cL_bid 25 = .ok (.iconst 3, 1) := by decide +kernel
theorem dL_bid_26 : decode cL_bid 26 = .ok (.ireturn, 1) := by decide +kernel
theorem dL_bid_27 : decode cL_bid 27 = .ok (.iconst 0, 1) := by decide +kernel
theorem dL_bid_28 : decode cL_bid 28 = .ok (.ireturn, 1) := by decide +kernel
set_option maxRecDepth 20000 in
theorem ggL_withdraw_X2_withdraw : GoodIn wsL_withdraw wsX2_withdraw := goodIn_ca (goodIn_ca (goodIn_ca (goodIn_r _ [8, 9, 10, 11, 12, 13, 14, 15, 16, 17, 7, 18, 19, 20, 21, 22, 23, 24, 25, 26, 27, 28, 29, 30, 31, 32, 33, 34, 35, 36, 37, 38, 39, 40, 41, 42, 43, 44, 45, 46, 47, 48, 49, 50, 51, 52, 53, 54] (by decide +kernel) (by decide +kernel)) (goodIn_sub (fun _ h => List.mem_cons_of_mem _ (List.mem_append_left _ (List.mem_append_left _ (List.mem_append_right _ h)))) (by decide +kernel))) (goodIn_sub (fun _ h => List.mem_cons_of_mem _ (List.mem_append_left _ (List.mem_append_right _ h))) (by decide +kernel))) (goodIn_sub (fun _ h => List.mem_cons_of_mem _ (List.mem_append_right _ h)) (by decide +kernel))
set_option maxRecDepth 20000 in
theorem gL_withdraw_X2_withdraw : GoodIn wsL_withdraw (wsV RL 23 RX2 yX2_withdraw wsX2_withdraw) := goodIn_app (goodIn_of _ (by decide +kernel)) ggL_withdraw_X2_withdraw
theorem dL_withdraw_0 : decode cL_withdraw 0 = .ok (.aload_n 3, 1) := by decide +kernel
theorem dL_withdraw_1 : decode cL_withdraw 1 = .ok (.iconst 0, 1) := by decide +kernel
theorem dL_withdraw_2 : decode cL_withdraw 2 = .ok (.aload_n 0, 1) := by decide +kernel
theorem dL_withdraw_3 : decode cL_withdraw 3 = .ok (.iload_n 1, 1) := by decide +kernel
theorem dL_withdraw_4 : decode cL_withdraw 4 = .ok (.iload_n 2, 1) := by decide +kernel
theorem dL_withdraw_5 : decode cL_withdraw 5 = .ok (.invokevirtual 23, 3) := by decide +kernel
theorem dL_withdraw_8 : decode cL_withdraw 8 = .ok (.i2l, 1) := by decide +kernel
theorem dL_withdraw_9 : decode cL_withdraw 9 = .ok (.lastore, 1) := by decide +kernel
theorem dL_withdraw_10 : decode cL_withdraw 10 = .ok (.goto 15, 3) := by decide +kernel
theorem dL_withdraw_13 : decode cL_withdraw 13 = .ok (.astore 4, 2) := by decide +kernel
theorem dL_withdraw_15 : decode cL_withdraw 15 = .ok (.iconst 1, 1) := by decide +kernel
theorem dL_withdraw_16 : decode cL_withdraw 16 = .ok (.ireturn, 1) := by decide +kernel
theorem dL_withdraw_17 : decode cL_withdraw 17 = .ok (.astore 4, 2) := by decide +kernel
theorem dL_withdraw_19 : decode cL_withdraw 19 = .ok (.iconst 2, 1) := by decide +kernel
theorem dL_withdraw_20 : decode cL_withdraw 20 = .ok (.ireturn, 1) := by decide +kernel
theorem dL_withdraw_21 : decode cL_withdraw 21 = .ok (.astore 4, 2) := by decide +kernel
theorem dL_withdraw_23 : decode cL_withdraw 23 = .ok (.iconst 3, 1) := by decide +kernel
theorem dL_withdraw_24 : decode cL_withdraw 24 = .ok (.ireturn, 1) := by decide +kernel
theorem dL_withdraw_25 : decode cL_withdraw 25 = .ok (.iconst 0, 1) := by decide +kernel
theorem dL_withdraw_26 : decode cL_withdraw 26 = .ok (.ireturn, 1) := by decide +kernel
set_option maxRecDepth 20000 in
theorem ggL_award_X2_award : GoodIn wsL_award wsX2_award := goodIn_ca (goodIn_ca (goodIn_r _ [7, 8, 9, 10, 11, 12, 13, 14, 6, 15, 16, 17, 18, 19, 20, 21, 22, 23, 24, 25, 26, 27, 28, 29, 30, 31, 32, 33, 34, 35, 36, 37, 38, 39, 40, 41, 42, 43, 44, 45, 46, 47, 48, 49, 50, 51, 52, 53, 54, 55] (by decide +kernel) (by decide +kernel)) (goodIn_sub (fun _ h => List.mem_cons_of_mem _ (List.mem_append_left _ (List.mem_append_right _ h))) (by decide +kernel))) (goodIn_sub (fun _ h => List.mem_cons_of_mem _ (List.mem_append_right _ h)) (by decide +kernel))
set_option maxRecDepth 20000 in
theorem gL_award_X2_award : GoodIn wsL_award (wsV RL 27 RX2 yX2_award wsX2_award) := goodIn_app (goodIn_of _ (by decide +kernel)) ggL_award_X2_award
theorem dL_award_0 : decode cL_award 0 = .ok (.aload_n 2, 1) := by decide +kernel
theorem dL_award_1 : decode cL_award 1 = .ok (.iconst 0, 1) := by decide +kernel
theorem dL_award_2 : decode cL_award 2 = .ok (.aload_n 0, 1) := by decide +kernel
theorem dL_award_3 : decode cL_award 3 = .ok (.iload_n 1, 1) := by decide +kernel
theorem dL_award_4 : decode cL_award 4 = .ok (.invokevirtual 27, 3) := by decide +kernel
theorem dL_award_7 : decode cL_award 7 = .ok (.i2l, 1) := by decide +kernel
theorem dL_award_8 : decode cL_award 8 = .ok (.lastore, 1) := by decide +kernel
theorem dL_award_9 : decode cL_award 9 = .ok (.goto 9, 3) := by decide +kernel
theorem dL_award_12 : decode cL_award 12 = .ok (.astore_n 3, 1) := by decide +kernel
theorem dL_award_13 : decode cL_award 13 = .ok (.iconst 1, 1) := by decide +kernel
theorem dL_award_14 : decode cL_award 14 = .ok (.ireturn, 1) := by decide +kernel
theorem dL_award_15 : decode cL_award 15 = .ok (.astore_n 3, 1) := by decide +kernel
theorem dL_award_16 : decode cL_award 16 = .ok (.iconst 2, 1) := by decide +kernel
theorem dL_award_17 : decode cL_award 17 = .ok (.ireturn, 1) := by decide +kernel
theorem dL_award_18 : decode cL_award 18 = .ok (.iconst 0, 1) := by decide +kernel
theorem dL_award_19 : decode cL_award 19 = .ok (.ireturn, 1) := by decide +kernel
set_option maxRecDepth 20000 in
theorem ggL_passOn_X2_passOn : GoodIn wsL_passOn wsX2_passOn := goodIn_ca (goodIn_ca (goodIn_ca (goodIn_r _ [8, 9, 10, 11, 12, 13, 14, 15, 16, 17, 7, 18, 19, 20, 21, 22, 23, 24, 25, 26, 27, 28, 29, 30, 31, 32, 33, 34, 35, 36, 37, 38, 39, 40, 41, 42, 43, 44, 45, 46, 47, 48, 49, 50, 51, 52, 53, 54, 55, 56, 57, 58, 59] (by decide +kernel) (by decide +kernel)) (goodIn_sub (fun _ h => List.mem_cons_of_mem _ (List.mem_append_left _ (List.mem_append_left _ (List.mem_append_right _ h)))) (by decide +kernel))) (goodIn_sub (fun _ h => List.mem_cons_of_mem _ (List.mem_append_left _ (List.mem_append_right _ h))) (by decide +kernel))) (goodIn_sub (fun _ h => List.mem_cons_of_mem _ (List.mem_append_right _ h)) (by decide +kernel))
set_option maxRecDepth 20000 in
theorem gL_passOn_X2_passOn : GoodIn wsL_passOn (wsV RL 31 RX2 yX2_passOn wsX2_passOn) := goodIn_app (goodIn_of _ (by decide +kernel)) ggL_passOn_X2_passOn
theorem dL_passOn_0 : decode cL_passOn 0 = .ok (.aload 4, 2) := by decide +kernel
theorem dL_passOn_2 : decode cL_passOn 2 = .ok (.iconst 0, 1) := by decide +kernel
theorem dL_passOn_3 : decode cL_passOn 3 = .ok (.aload_n 0, 1) := by decide +kernel
theorem dL_passOn_4 : decode cL_passOn 4 = .ok (.iload_n 1, 1) := by decide +kernel
theorem dL_passOn_5 : decode cL_passOn 5 = .ok (.iload_n 2, 1) := by decide +kernel
theorem dL_passOn_6 : decode cL_passOn 6 = .ok (.iload_n 3, 1) := by decide +kernel
theorem dL_passOn_7 : decode cL_passOn 7 = .ok (.invokevirtual 31, 3) := by decide +kernel
theorem dL_passOn_10 : decode cL_passOn 10 = .ok (.i2l, 1) := by decide +kernel
theorem dL_passOn_11 : decode cL_passOn 11 = .ok (.lastore, 1) := by decide +kernel
theorem dL_passOn_12 : decode cL_passOn 12 = .ok (.goto 15, 3) := by decide +kernel
theorem dL_passOn_15 : decode cL_passOn 15 = .ok (.astore 5, 2) := by decide +kernel
theorem dL_passOn_17 : decode cL_passOn 17 = .ok (.iconst 1, 1) := by decide +kernel
theorem dL_passOn_18 : decode cL_passOn 18 = .ok (.ireturn, 1) := by decide +kernel
theorem dL_passOn_19 : decode cL_passOn 19 = .ok (.astore 5, 2) := by decide +kernel
theorem dL_passOn_21 : decode cL_passOn 21 = .ok (.iconst 2, 1) := by decide +kernel
theorem dL_passOn_22 : decode cL_passOn 22 = .ok (.ireturn, 1) := by decide +kernel
theorem dL_passOn_23 : decode cL_passOn 23 = .ok (.astore 5, 2) := by decide +kernel
theorem dL_passOn_25 : decode cL_passOn 25 = .ok (.iconst 3, 1) := by decide +kernel
theorem dL_passOn_26 : decode cL_passOn 26 = .ok (.ireturn, 1) := by decide +kernel
theorem dL_passOn_27 : decode cL_passOn 27 = .ok (.iconst 0, 1) := by decide +kernel
theorem dL_passOn_28 : decode cL_passOn 28 = .ok (.ireturn, 1) := by decide +kernel
set_option maxRecDepth 20000 in
theorem ggL_turnover_X2_turnover : GoodIn wsL_turnover wsX2_turnover := goodIn_ca (goodIn_r _ [6, 7, 8, 9, 10, 5, 11, 12, 13, 14, 15, 16, 17, 18, 19, 20, 21, 22, 23, 24, 25, 26, 27, 28, 29, 30, 31, 32, 33, 34, 35, 36, 37, 38, 39, 40, 41] (by decide +kernel) (by decide +kernel)) (goodIn_sub (fun _ h => List.mem_cons_of_mem _ (List.mem_append_right _ h)) (by decide +kernel))
set_option maxRecDepth 20000 in
theorem gL_turnover_X2_turnover : GoodIn wsL_turnover (wsV RL 34 RX2 yX2_turnover wsX2_turnover) := goodIn_app (goodIn_of _ (by decide +kernel)) ggL_turnover_X2_turnover
theorem dL_turnover_0 : decode cL_turnover 0 = .ok (.aload_n 2, 1) := by decide +kernel
theorem dL_turnover_1 : decode cL_turnover 1 = .ok (.iconst 0, 1) := by decide +kernel
theorem dL_turnover_2 : decode cL_turnover 2 = .ok (.aload_n 0, 1) := by decide +kernel
theorem dL_turnover_3 : decode cL_turnover 3 = .ok (.iload_n 1, 1) := by decide +kernel
theorem dL_turnover_4 : decode cL_turnover 4 = .ok (.invokevirtual 34, 3) := by decide +kernel
theorem dL_turnover_7 : decode cL_turnover 7 = .ok (.i2l, 1) := by decide +kernel
theorem dL_turnover_8 : decode cL_turnover 8 = .ok (.lastore, 1) := by decide +kernel
theorem dL_turnover_9 : decode cL_turnover 9 = .ok (.goto 6, 3) := by decide +kernel
theorem dL_turnover_12 : decode cL_turnover 12 = .ok (.astore_n 3, 1) := by decide +kernel
theorem dL_turnover_13 : decode cL_turnover 13 = .ok (.iconst 1, 1) := by decide +kernel
theorem dL_turnover_14 : decode cL_turnover 14 = .ok (.ireturn, 1) := by decide +kernel
theorem dL_turnover_15 : decode cL_turnover 15 = .ok (.iconst 0, 1) := by decide +kernel
theorem dL_turnover_16 : decode cL_turnover 16 = .ok (.ireturn, 1) := by decide +kernel
set_option maxRecDepth 20000 in
theorem ggL_won_X2_won : GoodIn wsL_won wsX2_won := goodIn_ca (goodIn_r _ [6, 7, 8, 9, 10, 11, 5, 12, 13, 14, 15, 16, 17, 18, 19, 20, 21, 22, 23, 24, 25, 26, 27, 28, 29, 30] (by decide +kernel) (by decide +kernel)) (goodIn_sub (fun _ h => List.mem_cons_of_mem _ (List.mem_append_right _ h)) (by decide +kernel))
set_option maxRecDepth 20000 in
theorem gL_won_X2_won : GoodIn wsL_won (wsV RL 37 RX2 yX2_won wsX2_won) := goodIn_app (goodIn_of _ (by decide +kernel)) ggL_won_X2_won
theorem dL_won_0 : decode cL_won 0 = .ok (.aload_n 2, 1) := by decide +kernel
theorem dL_won_1 : decode cL_won 1 = .ok (.iconst 0, 1) := by decide +kernel
theorem dL_won_2 : decode cL_won 2 = .ok (.aload_n 0, 1) := by decide +kernel
theorem dL_won_3 : decode cL_won 3 = .ok (.iload_n 1, 1) := by decide +kernel
theorem dL_won_4 : decode cL_won 4 = .ok (.invokevirtual 37, 3) := by decide +kernel
theorem dL_won_7 : decode cL_won 7 = .ok (.i2l, 1) := by decide +kernel
theorem dL_won_8 : decode cL_won 8 = .ok (.lastore, 1) := by decide +kernel
theorem dL_won_9 : decode cL_won 9 = .ok (.goto 6, 3) := by decide +kernel
theorem dL_won_12 : decode cL_won 12 = .ok (.astore_n 3, 1) := by decide +kernel
theorem dL_won_13 : decode cL_won 13 = .ok (.iconst 1, 1) := by decide +kernel
theorem dL_won_14 : decode cL_won 14 = .ok (.ireturn, 1) := by decide +kernel
theorem dL_won_15 : decode cL_won 15 = .ok (.iconst 0, 1) := by decide +kernel
theorem dL_won_16 : decode cL_won 16 = .ok (.ireturn, 1) := by decide +kernel
set_option maxRecDepth 20000 in
theorem ggL_suspicion_X2_suspicion : GoodIn wsL_suspicion wsX2_suspicion := goodIn_ca (goodIn_r _ [6, 7, 8, 9, 10, 5, 11, 12, 13, 14, 15, 16, 17, 18, 19, 20, 21, 22, 23, 24, 25, 26, 27, 28, 29, 30, 31, 32, 33, 34, 35, 36, 37, 38, 39, 40, 41, 42, 43, 44, 45, 46, 47, 48, 49, 50, 51, 52, 53, 54, 55, 56, 57, 58, 59, 60, 61, 62, 63, 64, 65, 66, 67, 68, 69, 70, 71, 72, 73, 74, 75, 76, 77, 78, 79, 80, 81] (by decide +kernel) (by decide +kernel)) (goodIn_sub (fun _ h => List.mem_cons_of_mem _ (List.mem_append_right _ h)) (by decide +kernel))
set_option maxRecDepth 20000 in
theorem gL_suspicion_X2_suspicion : GoodIn wsL_suspicion (wsV RL 40 RX2 yX2_suspicion wsX2_suspicion) := goodIn_app (goodIn_of _ (by decide +kernel)) ggL_suspicion_X2_suspicion
theorem dL_suspicion_0 : decode cL_suspicion 0 = .ok (.aload_n 3, 1) := by decide +kernel
theorem dL_suspicion_1 : decode cL_suspicion 1 = .ok (.iconst 0, 1) := by decide +kernel
theorem dL_suspicion_2 : decode cL_suspicion 2 = .ok (.aload_n 0, 1) := by decide +kernel
theorem dL_suspicion_3 : decode cL_suspicion 3 = .ok (.iload_n 1, 1) := by decide +kernel
theorem dL_suspicion_4 : decode cL_suspicion 4 = .ok (.iload_n 2, 1) := by decide +kernel
theorem dL_suspicion_5 : decode cL_suspicion 5 = .ok (.invokevirtual 40, 3) := by decide +kernel
theorem dL_suspicion_8 : decode cL_suspicion 8 = .ok (.i2l, 1) := by decide +kernel
theorem dL_suspicion_9 : decode cL_suspicion 9 = .ok (.lastore, 1) := by decide +kernel
theorem dL_suspicion_10 : decode cL_suspicion 10 = .ok (.goto 7, 3) := by decide +kernel
theorem dL_suspicion_13 : decode cL_suspicion 13 = .ok (.astore 4, 2) := by decide +kernel
theorem dL_suspicion_15 : decode cL_suspicion 15 = .ok (.iconst 1, 1) := by decide +kernel
theorem dL_suspicion_16 : decode cL_suspicion 16 = .ok (.ireturn, 1) := by decide +kernel
theorem dL_suspicion_17 : decode cL_suspicion 17 = .ok (.iconst 0, 1) := by decide +kernel
theorem dL_suspicion_18 : decode cL_suspicion 18 = .ok (.ireturn, 1) := by decide +kernel
set_option maxRecDepth 20000 in
theorem ggL_sign_X2_sign : GoodIn wsL_sign wsX2_sign := goodIn_ca (goodIn_ca (goodIn_r _ [7, 8, 9, 10, 11, 12, 13, 14, 6, 15, 16, 17, 18, 19, 20, 21, 22, 23, 24, 25, 26, 27, 28, 29, 30, 31, 32, 33, 34, 35, 36, 37, 38, 39, 40, 41, 42, 43, 44, 45, 46, 47, 48, 49, 50, 51, 52, 53, 54, 55, 56, 57, 58, 59, 60, 61, 62, 63, 64, 65, 66, 67, 68, 69, 70, 71, 72, 73, 74, 75, 76, 77, 78, 79, 80] (by decide +kernel) (by decide +kernel)) (goodIn_sub (fun _ h => List.mem_cons_of_mem _ (List.mem_append_left _ (List.mem_append_right _ h))) (by decide +kernel))) (goodIn_sub (fun _ h => List.mem_cons_of_mem _ (List.mem_append_right _ h)) (by decide +kernel))
set_option maxRecDepth 20000 in
theorem gL_sign_X2_sign : GoodIn wsL_sign (wsV RL 43 RX2 yX2_sign wsX2_sign) := goodIn_app (goodIn_of _ (by decide +kernel)) ggL_sign_X2_sign
theorem dL_sign_0 : decode cL_sign 0 = .ok (.aload 4, 2) := by decide +kernel
theorem dL_sign_2 : decode cL_sign 2 = .ok (.iconst 0, 1) := by decide +kernel
theorem dL_sign_3 : decode cL_sign 3 = .ok (.aload_n 0, 1) := by decide +kernel
theorem dL_sign_4 : decode cL_sign 4 = .ok (.iload_n 1, 1) := by decide +kernel
theorem dL_sign_5 : decode cL_sign 5 = .ok (.iload_n 2, 1) := by decide +kernel
theorem dL_sign_6 : decode cL_sign 6 = .ok (.iload_n 3, 1) := by decide +kernel
theorem dL_sign_7 : decode cL_sign 7 = .ok (.invokevirtual 43, 3) := by decide +kernel
theorem dL_sign_10 : decode cL_sign 10 = .ok (.i2l, 1) := by decide +kernel
theorem dL_sign_11 : decode cL_sign 11 = .ok (.lastore, 1) := by decide +kernel
theorem dL_sign_12 : decode cL_sign 12 = .ok (.goto 11, 3) := by decide +kernel
theorem dL_sign_15 : decode cL_sign 15 = .ok (.astore 5, 2) := by decide +kernel
theorem dL_sign_17 : decode cL_sign 17 = .ok (.iconst 1, 1) := by decide +kernel
theorem dL_sign_18 : decode cL_sign 18 = .ok (.ireturn, 1) := by decide +kernel
theorem dL_sign_19 : decode cL_sign 19 = .ok (.astore 5, 2) := by decide +kernel
theorem dL_sign_21 : decode cL_sign 21 = .ok (.iconst 2, 1) := by decide +kernel
theorem dL_sign_22 : decode cL_sign 22 = .ok (.ireturn, 1) := by decide +kernel
theorem dL_sign_23 : decode cL_sign 23 = .ok (.iconst 0, 1) := by decide +kernel
theorem dL_sign_24 : decode cL_sign 24 = .ok (.ireturn, 1) := by decide +kernel
set_option maxRecDepth 20000 in
theorem ggL_setMark_X2_setMark : GoodIn wsL_setMark wsX2_setMark := goodIn_ca (goodIn_r _ [6, 7, 8, 9, 10, 11, 12, 13, 14, 15] (by decide +kernel) (by decide +kernel)) (goodIn_sub (fun _ h => List.mem_cons_of_mem _ (List.mem_append_right _ h)) (by decide +kernel))
set_option maxRecDepth 20000 in
theorem gL_setMark_X2_setMark : GoodIn wsL_setMark (wsV RL 46 RX2 yX2_setMark wsX2_setMark) := goodIn_app (goodIn_of _ (by decide +kernel)) ggL_setMark_X2_setMark
theorem dL_setMark_0 : decode cL_setMark 0 = .ok (.aload_n 2, 1) := by decide +kernel
theorem dL_setMark_1 : decode cL_setMark 1 = .ok (.iconst 0, 1) := by decide +kernel
theorem dL_setMark_2 : decode cL_setMark 2 = .ok (.aload_n 0, 1) := by decide +kernel
theorem dL_setMark_3 : decode cL_setMark 3 = .ok (.iload_n 1, 1) := by decide +kernel
theorem dL_setMark_4 : decode cL_setMark 4 = .ok (.invokevirtual 46, 3) := by decide +kernel
theorem dL_setMark_7 : decode cL_setMark 7 = .ok (.i2l, 1) := by decide +kernel
theorem dL_setMark_8 : decode cL_setMark 8 = .ok (.lastore, 1) := by decide +kernel
theorem dL_setMark_9 : decode cL_setMark 9 = .ok (.goto 6, 3) := by decide +kernel
theorem dL_setMark_12 : decode cL_setMark 12 = .ok (.astore_n 3, 1) := by decide +kernel
theorem dL_setMark_13 : decode cL_setMark 13 = .ok (.iconst 1, 1) := by decide +kernel
theorem dL_setMark_14 : decode cL_setMark 14 = .ok (.ireturn, 1) := by decide +kernel
theorem dL_setMark_15 : decode cL_setMark 15 = .ok (.iconst 0, 1) := by decide +kernel
theorem dL_setMark_16 : decode cL_setMark 16 = .ok (.ireturn, 1) := by decide +kernel
set_option maxRecDepth 20000 in
theorem ggL_file_X2_file : GoodIn wsL_file wsX2_file := goodIn_ca (goodIn_ca (goodIn_r _ [7, 8, 9, 10, 11, 12, 13, 14, 15, 16, 17, 18, 19, 20, 6, 21, 22, 23, 24, 25, 26, 27, 28, 29, 30, 31, 32, 33, 34, 35, 36, 37, 38, 39, 40, 41, 42, 43, 44, 45, 46, 47, 48, 49, 50, 51, 52, 53, 54, 55, 56, 57, 58, 59, 60, 61, 62, 63, 64, 65, 66, 67, 68, 69, 70, 71, 72, 73, 74, 75, 76, 77, 78, 79, 80, 81, 82, 83, 84, 85, 86, 87, 88, 89, 90, 91, 92, 93, 94, 95, 96, 97, 98, 99, 100, 101, 102, 103, 104, 105, 106, 107, 108, 109, 110, 111, 112, 113, 114, 115, 116, 117, 118, 119, 120, 121, 122, 123, 124, 125, 126] (by decide +kernel) (by decide +kernel)) (goodIn_sub (fun _ h => List.mem_cons_of_mem _ (List.mem_append_left _ (List.mem_append_right _ h))) (by decide +kernel))) (goodIn_sub (fun _ h => List.mem_cons_of_mem _ (List.mem_append_right _ h)) (by decide +kernel))
set_option maxRecDepth 20000 in
theorem gL_file_X2_file : GoodIn wsL_file (wsV RL 49 RX2 yX2_file wsX2_file) := goodIn_app (goodIn_of _ (by decide +kernel)) ggL_file_X2_file
theorem dL_file_0 : decode cL_file 0 = .ok (.aload_n 3, 1) := by decide +kernel
theorem dL_file_1 : decode cL_file 1 = .ok (.iconst 0, 1) := by decide +kernel
theorem dL_file_2 : decode cL_file 2 = .ok (.aload_n 0, 1) := by decide +kernel
theorem dL_file_3 : decode cL_file 3 = .ok (.iload_n 1, 1) := by decide +kernel
theorem dL_file_4 : decode cL_file 4 = .ok (.iload_n 2, 1) := by decide +kernel
theorem dL_file_5 : decode cL_file 5 = .ok (.invokevirtual 49, 3) := by decide +kernel
theorem dL_file_8 : decode cL_file 8 = .ok (.i2l, 1) := by decide +kernel
theorem dL_file_9 : decode cL_file 9 = .ok (.lastore, 1) := by decide +kernel
theorem dL_file_10 : decode cL_file 10 = .ok (.goto 11, 3) := by decide +kernel
theorem dL_file_13 : decode cL_file 13 = .ok (.astore 4, 2) := by decide +kernel
theorem dL_file_15 : decode cL_file 15 = .ok (.iconst 1, 1) := by decide +kernel
theorem dL_file_16 : decode cL_file 16 = .ok (.ireturn, 1) := by decide +kernel
theorem dL_file_17 : decode cL_file 17 = .ok (.astore 4, 2) := by decide +kernel
theorem dL_file_19 : decode cL_file 19 = .ok (.iconst 2, 1) := by decide +kernel
theorem dL_file_20 : decode cL_file 20 = .ok (.ireturn, 1) := by decide +kernel
theorem dL_file_21 : decode cL_file 21 = .ok (.iconst 0, 1) := by decide +kernel
theorem dL_file_22 : decode cL_file 22 = .ok (.ireturn, 1) := by decide +kernel
set_option maxRecDepth 20000 in
theorem ggL_matters_X2_matters : GoodIn wsL_matters wsX2_matters := goodIn_ca (goodIn_r _ [6, 7, 8, 9, 10, 11, 5, 12, 13, 14, 15, 16, 17, 18, 19, 20, 21, 22, 23, 24, 25, 26, 27, 28, 29, 30, 31, 32, 33] (by decide +kernel) (by decide +kernel)) (goodIn_sub (fun _ h => List.mem_cons_of_mem _ (List.mem_append_right _ h)) (by decide +kernel))
set_option maxRecDepth 20000 in
theorem gL_matters_X2_matters : GoodIn wsL_matters (wsV RL 52 RX2 yX2_matters wsX2_matters) := goodIn_app (goodIn_of _ (by decide +kernel)) ggL_matters_X2_matters
theorem dL_matters_0 : decode cL_matters 0 = .ok (.aload_n 2, 1) := by decide +kernel
theorem dL_matters_1 : decode cL_matters 1 = .ok (.iconst 0, 1) := by decide +kernel
theorem dL_matters_2 : decode cL_matters 2 = .ok (.aload_n 0, 1) := by decide +kernel
theorem dL_matters_3 : decode cL_matters 3 = .ok (.iload_n 1, 1) := by decide +kernel
theorem dL_matters_4 : decode cL_matters 4 = .ok (.invokevirtual 52, 3) := by decide +kernel
theorem dL_matters_7 : decode cL_matters 7 = .ok (.i2l, 1) := by decide +kernel
theorem dL_matters_8 : decode cL_matters 8 = .ok (.lastore, 1) := by decide +kernel
theorem dL_matters_9 : decode cL_matters 9 = .ok (.goto 6, 3) := by decide +kernel
theorem dL_matters_12 : decode cL_matters 12 = .ok (.astore_n 3, 1) := by decide +kernel
theorem dL_matters_13 : decode cL_matters 13 = .ok (.iconst 1, 1) := by decide +kernel
theorem dL_matters_14 : decode cL_matters 14 = .ok (.ireturn, 1) := by decide +kernel
theorem dL_matters_15 : decode cL_matters 15 = .ok (.iconst 0, 1) := by decide +kernel
theorem dL_matters_16 : decode cL_matters 16 = .ok (.ireturn, 1) := by decide +kernel
set_option maxRecDepth 20000 in
theorem ggL_tell_X2_tell : GoodIn wsL_tell wsX2_tell := goodIn_ca (goodIn_ca (goodIn_ca (goodIn_r _ [8, 9, 10, 11, 12, 13, 14, 15, 16, 17, 7, 18, 19, 20, 21, 22, 23, 24, 25, 26, 27, 28, 29, 30, 31, 32, 33, 34, 35, 36, 37, 38, 39, 40, 41, 42, 43, 44, 45, 46, 47, 48, 49, 50, 51, 52, 53, 54, 55, 56, 57, 58, 59] (by decide +kernel) (by decide +kernel)) (goodIn_sub (fun _ h => List.mem_cons_of_mem _ (List.mem_append_left _ (List.mem_append_left _ (List.mem_append_right _ h)))) (by decide +kernel))) (goodIn_sub (fun _ h => List.mem_cons_of_mem _ (List.mem_append_left _ (List.mem_append_right _ h))) (by decide +kernel))) (goodIn_sub (fun _ h => List.mem_cons_of_mem _ (List.mem_append_right _ h)) (by decide +kernel))
set_option maxRecDepth 20000 in
theorem gL_tell_X2_tell : GoodIn wsL_tell (wsV RL 55 RX2 yX2_tell wsX2_tell) := goodIn_app (goodIn_of _ (by decide +kernel)) ggL_tell_X2_tell
theorem dL_tell_0 : decode cL_tell 0 = .ok (.aload 4, 2) := by decide +kernel
theorem dL_tell_2 : decode cL_tell 2 = .ok (.iconst 0, 1) := by decide +kernel
theorem dL_tell_3 : decode cL_tell 3 = .ok (.aload_n 0, 1) := by decide +kernel
theorem dL_tell_4 : decode cL_tell 4 = .ok (.iload_n 1, 1) := by decide +kernel
theorem dL_tell_5 : decode cL_tell 5 = .ok (.iload_n 2, 1) := by decide +kernel
theorem dL_tell_6 : decode cL_tell 6 = .ok (.iload_n 3, 1) := by decide +kernel
theorem dL_tell_7 : decode cL_tell 7 = .ok (.invokevirtual 55, 3) := by decide +kernel
theorem dL_tell_10 : decode cL_tell 10 = .ok (.ifCond .eq 7, 3) := by decide +kernel
theorem dL_tell_13 : decode cL_tell 13 = .ok (.lconst 1, 1) := by decide +kernel
theorem dL_tell_14 : decode cL_tell 14 = .ok (.goto 4, 3) := by decide +kernel
theorem dL_tell_17 : decode cL_tell 17 = .ok (.lconst 0, 1) := by decide +kernel
theorem dL_tell_18 : decode cL_tell 18 = .ok (.lastore, 1) := by decide +kernel
theorem dL_tell_19 : decode cL_tell 19 = .ok (.goto 15, 3) := by decide +kernel
theorem dL_tell_22 : decode cL_tell 22 = .ok (.astore 5, 2) := by decide +kernel
theorem dL_tell_24 : decode cL_tell 24 = .ok (.iconst 1, 1) := by decide +kernel
theorem dL_tell_25 : decode cL_tell 25 = .ok (.ireturn, 1) := by decide +kernel
theorem dL_tell_26 : decode cL_tell 26 = .ok (.astore 5, 2) := by decide +kernel
theorem dL_tell_28 : decode cL_tell 28 = .ok (.iconst 2, 1) := by decide +kernel
theorem dL_tell_29 : decode cL_tell 29 = .ok (.ireturn, 1) := by decide +kernel
theorem dL_tell_30 : decode cL_tell 30 = .ok (.astore 5, 2) := by decide +kernel
theorem dL_tell_32 : decode cL_tell 32 = .ok (.iconst 3, 1) := by decide +kernel
theorem dL_tell_33 : decode cL_tell 33 = .ok (.ireturn, 1) := by decide +kernel
theorem dL_tell_34 : decode cL_tell 34 = .ok (.iconst 0, 1) := by decide +kernel
theorem dL_tell_35 : decode cL_tell 35 = .ok (.ireturn, 1) := by decide +kernel
set_option maxRecDepth 20000 in
theorem ggL_compensate_X2_compensate : GoodIn wsL_compensate wsX2_compensate := goodIn_ca (goodIn_r _ [6, 7, 8, 9, 10, 11, 5, 12, 13, 14, 15, 16, 17, 18, 19, 20, 21, 22] (by decide +kernel) (by decide +kernel)) (goodIn_sub (fun _ h => List.mem_cons_of_mem _ (List.mem_append_right _ h)) (by decide +kernel))
set_option maxRecDepth 20000 in
theorem gL_compensate_X2_compensate : GoodIn wsL_compensate (wsV RL 59 RX2 yX2_compensate wsX2_compensate) := goodIn_app (goodIn_of _ (by decide +kernel)) ggL_compensate_X2_compensate
theorem dL_compensate_0 : decode cL_compensate 0 = .ok (.aload_n 3, 1) := by decide +kernel
theorem dL_compensate_1 : decode cL_compensate 1 = .ok (.iconst 0, 1) := by decide +kernel
theorem dL_compensate_2 : decode cL_compensate 2 = .ok (.aload_n 0, 1) := by decide +kernel
theorem dL_compensate_3 : decode cL_compensate 3 = .ok (.iload_n 1, 1) := by decide +kernel
theorem dL_compensate_4 : decode cL_compensate 4 = .ok (.iload_n 2, 1) := by decide +kernel
theorem dL_compensate_5 : decode cL_compensate 5 = .ok (.invokevirtual 59, 3) := by decide +kernel
theorem dL_compensate_8 : decode cL_compensate 8 = .ok (.i2l, 1) := by decide +kernel
theorem dL_compensate_9 : decode cL_compensate 9 = .ok (.lastore, 1) := by decide +kernel
theorem dL_compensate_10 : decode cL_compensate 10 = .ok (.goto 7, 3) := by decide +kernel
theorem dL_compensate_13 : decode cL_compensate 13 = .ok (.astore 4, 2) := by decide +kernel
theorem dL_compensate_15 : decode cL_compensate 15 = .ok (.iconst 1, 1) := by decide +kernel
theorem dL_compensate_16 : decode cL_compensate 16 = .ok (.ireturn, 1) := by decide +kernel
theorem dL_compensate_17 : decode cL_compensate 17 = .ok (.iconst 0, 1) := by decide +kernel
theorem dL_compensate_18 : decode cL_compensate 18 = .ok (.ireturn, 1) := by decide +kernel
set_option maxRecDepth 20000 in
theorem ggL_close_X2_close : GoodIn wsL_close wsX2_close := goodIn_ca (goodIn_ca (goodIn_r _ [7, 8, 9, 10, 11, 12, 13, 14, 6, 15, 16, 17, 18, 19, 20, 21, 22, 23, 24, 25, 26, 27, 28, 29, 30, 31, 32, 33, 34, 35, 36, 37, 38, 39, 40, 41, 42, 43, 44, 45, 46, 47, 48, 49, 50, 51, 52, 53, 54, 55, 56, 57, 58, 59, 60, 61, 62, 63, 64, 65, 66, 67, 68, 69, 70, 71, 72, 73, 74, 75, 76, 77, 78, 79, 80, 81, 82, 83, 84, 85, 86, 87, 88, 89, 90, 91, 92, 93, 94, 95, 96, 97, 98] (by decide +kernel) (by decide +kernel)) (goodIn_sub (fun _ h => List.mem_cons_of_mem _ (List.mem_append_left _ (List.mem_append_right _ h))) (by decide +kernel))) (goodIn_sub (fun _ h => List.mem_cons_of_mem _ (List.mem_append_right _ h)) (by decide +kernel))
set_option maxRecDepth 20000 in
theorem gL_close_X2_close : GoodIn wsL_close (wsV RL 62 RX2 yX2_close wsX2_close) := goodIn_app (goodIn_of _ (by decide +kernel)) ggL_close_X2_close
theorem dL_close_0 : decode cL_close 0 = .ok (.aload_n 2, 1) := by decide +kernel
theorem dL_close_1 : decode cL_close 1 = .ok (.iconst 0, 1) := by decide +kernel
theorem dL_close_2 : decode cL_close 2 = .ok (.aload_n 0, 1) := by decide +kernel
theorem dL_close_3 : decode cL_close 3 = .ok (.iload_n 1, 1) := by decide +kernel
theorem dL_close_4 : decode cL_close 4 = .ok (.invokevirtual 62, 3) := by decide +kernel
theorem dL_close_7 : decode cL_close 7 = .ok (.i2l, 1) := by decide +kernel
theorem dL_close_8 : decode cL_close 8 = .ok (.lastore, 1) := by decide +kernel
theorem dL_close_9 : decode cL_close 9 = .ok (.goto 9, 3) := by decide +kernel
theorem dL_close_12 : decode cL_close 12 = .ok (.astore_n 3, 1) := by decide +kernel
theorem dL_close_13 : decode cL_close 13 = .ok (.iconst 1, 1) := by decide +kernel
theorem dL_close_14 : decode cL_close 14 = .ok (.ireturn, 1) := by decide +kernel
theorem dL_close_15 : decode cL_close 15 = .ok (.astore_n 3, 1) := by decide +kernel
theorem dL_close_16 : decode cL_close 16 = .ok (.iconst 2, 1) := by decide +kernel
theorem dL_close_17 : decode cL_close 17 = .ok (.ireturn, 1) := by decide +kernel
theorem dL_close_18 : decode cL_close 18 = .ok (.iconst 0, 1) := by decide +kernel
theorem dL_close_19 : decode cL_close 19 = .ok (.ireturn, 1) := by decide +kernel
set_option maxRecDepth 20000 in
theorem ggL_fine_X2_fine : GoodIn wsL_fine wsX2_fine := goodIn_ca (goodIn_ca (goodIn_r _ [7, 8, 9, 10, 11, 12, 13, 14, 6, 15, 16, 17, 18, 19, 20, 21, 22, 23, 24, 25, 26, 27, 28, 29, 30, 31, 32, 33, 34, 35, 36, 37, 38, 39, 40, 41, 42, 43, 44] (by decide +kernel) (by decide +kernel)) (goodIn_sub (fun _ h => List.mem_cons_of_mem _ (List.mem_append_left _ (List.mem_append_right _ h))) (by decide +kernel))) (goodIn_sub (fun _ h => List.mem_cons_of_mem _ (List.mem_append_right _ h)) (by decide +kernel))
set_option maxRecDepth 20000 in
theorem gL_fine_X2_fine : GoodIn wsL_fine (wsV RL 65 RX2 yX2_fine wsX2_fine) := goodIn_app (goodIn_of _ (by decide +kernel)) ggL_fine_X2_fine
theorem dL_fine_0 : decode cL_fine 0 = .ok (.aload_n 3, 1) := by decide +kernel
theorem dL_fine_1 : decode cL_fine 1 = .ok (.iconst 0, 1) := by decide +kernel
theorem dL_fine_2 : decode cL_fine 2 = .ok (.aload_n 0, 1) := by decide +kernel
theorem dL_fine_3 : decode cL_fine 3 = .ok (.iload_n 1, 1) := by decide +kernel
theorem dL_fine_4 : decode cL_fine 4 = .ok (.iload_n 2, 1) := by decide +kernel
theorem dL_fine_5 : decode cL_fine 5 = .ok (.invokevirtual 65, 3) := by decide +kernel
theorem dL_fine_8 : decode cL_fine 8 = .ok (.i2l, 1) := by decide +kernel
theorem dL_fine_9 : decode cL_fine 9 = .ok (.lastore, 1) := by decide +kernel
theorem dL_fine_10 : decode cL_fine 10 = .ok (.goto 11, 3) := by decide +kernel
theorem dL_fine_13 : decode cL_fine 13 = .ok (.astore 4, 2) := by decide +kernel
theorem dL_fine_15 : decode cL_fine 15 = .ok (.iconst 1, 1) := by decide +kernel
theorem dL_fine_16 : decode cL_fine 16 = .ok (.ireturn, 1) := by decide +kernel
theorem dL_fine_17 : decode cL_fine 17 = .ok (.astore 4, 2) := by decide +kernel
theorem dL_fine_19 : decode cL_fine 19 = .ok (.iconst 2, 1) := by decide +kernel
theorem dL_fine_20 : decode cL_fine 20 = .ok (.ireturn, 1) := by decide +kernel
theorem dL_fine_21 : decode cL_fine 21 = .ok (.iconst 0, 1) := by decide +kernel
theorem dL_fine_22 : decode cL_fine 22 = .ok (.ireturn, 1) := by decide +kernel
set_option maxRecDepth 20000 in
theorem ggL_firstTeller_X2_firstTeller : GoodIn wsL_firstTeller wsX2_firstTeller := goodIn_ca (goodIn_r _ [6, 7, 8, 9, 10, 11, 5, 12, 13, 14, 15, 16, 17, 18, 19, 20, 21, 22, 23, 24, 25, 26, 27, 28, 29, 30, 31, 32, 33] (by decide +kernel) (by decide +kernel)) (goodIn_sub (fun _ h => List.mem_cons_of_mem _ (List.mem_append_right _ h)) (by decide +kernel))
set_option maxRecDepth 20000 in
theorem gL_firstTeller_X2_firstTeller : GoodIn wsL_firstTeller (wsV RL 68 RX2 yX2_firstTeller wsX2_firstTeller) := goodIn_app (goodIn_of _ (by decide +kernel)) ggL_firstTeller_X2_firstTeller
theorem dL_firstTeller_0 : decode cL_firstTeller 0 = .ok (.aload_n 2, 1) := by decide +kernel
theorem dL_firstTeller_1 : decode cL_firstTeller 1 = .ok (.iconst 0, 1) := by decide +kernel
theorem dL_firstTeller_2 : decode cL_firstTeller 2 = .ok (.aload_n 0, 1) := by decide +kernel
theorem dL_firstTeller_3 : decode cL_firstTeller 3 = .ok (.iload_n 1, 1) := by decide +kernel
theorem dL_firstTeller_4 : decode cL_firstTeller 4 = .ok (.invokevirtual 68, 3) := by decide +kernel
theorem dL_firstTeller_7 : decode cL_firstTeller 7 = .ok (.i2l, 1) := by decide +kernel
theorem dL_firstTeller_8 : decode cL_firstTeller 8 = .ok (.lastore, 1) := by decide +kernel
theorem dL_firstTeller_9 : decode cL_firstTeller 9 = .ok (.goto 6, 3) := by decide +kernel
theorem dL_firstTeller_12 : decode cL_firstTeller 12 = .ok (.astore_n 3, 1) := by decide +kernel
theorem dL_firstTeller_13 : decode cL_firstTeller 13 = .ok (.iconst 1, 1) := by decide +kernel
theorem dL_firstTeller_14 : decode cL_firstTeller 14 = .ok (.ireturn, 1) := by decide +kernel
theorem dL_firstTeller_15 : decode cL_firstTeller 15 = .ok (.iconst 0, 1) := by decide +kernel
theorem dL_firstTeller_16 : decode cL_firstTeller 16 = .ok (.ireturn, 1) := by decide +kernel
set_option maxRecDepth 20000 in
theorem ggL_law_X2_init : GoodIn wsL_law wsX2_init := goodIn_r _ [9, 10, 11, 12, 13, 14, 15, 16, 17, 18, 19, 20, 21, 502, 503, 504, 505, 506, 507] (by decide +kernel) (by decide +kernel)
set_option maxRecDepth 20000 in
theorem gL_law_X2_init : GoodIn wsL_law (wsX2_init) := ggL_law_X2_init
set_option maxRecDepth 20000 in
theorem ggL_law_X3_init : GoodIn wsL_law wsX3_init := goodIn_r _ [24, 25, 11, 12, 19, 26, 27, 28, 29, 30, 31, 32, 33, 34, 35, 36, 37, 38, 39, 40, 41, 42, 508, 509, 510, 511, 512, 513, 514, 515, 516, 517, 518, 519, 520, 521, 522, 523, 524, 525, 526] (by decide +kernel) (by decide +kernel)
set_option maxRecDepth 20000 in
theorem gL_law_X3_init : GoodIn wsL_law (wsX3_init) := ggL_law_X3_init
set_option maxRecDepth 20000 in
theorem ggL_law_L_open : GoodIn wsL_law wsL_open := goodIn_ca (goodIn_r _ [46, 47, 48, 49, 50, 2, 51, 52, 53, 15, 14, 13, 54, 55, 56, 57, 58, 11, 12, 19, 59, 31, 60, 61, 62, 63, 64, 502, 503, 504, 505, 506, 507, 527, 528, 529, 530, 531, 532] (by decide +kernel) (by decide +kernel)) (goodIn_sub (fun _ h => List.mem_append_left _ (List.mem_append_left _ (List.mem_append_right _ h))) (by decide +kernel))
set_option maxRecDepth 20000 in
theorem gL_law_L_open : GoodIn wsL_law (va_wsS RL 75 yL_open wsL_open) := goodIn_app (goodIn_of _ (by decide +kernel)) ggL_law_L_open
set_option maxRecDepth 20000 in
theorem ggL_law_X3_open : GoodIn wsL_law wsX3_open := goodIn_r _ [68, 69, 70, 28, 71, 72, 73, 5, 74, 508, 509, 510, 511, 512, 513, 514, 515, 516, 517, 518, 519, 520, 521, 522, 523, 524, 525, 526] (by decide +kernel) (by decide +kernel)
set_option maxRecDepth 20000 in
theorem gL_law_X3_open : GoodIn wsL_law (wsV RL 80 RX3 yX3_open wsX3_open) := goodIn_app (goodIn_of _ (by decide +kernel)) ggL_law_X3_open
set_option maxRecDepth 20000 in
theorem ggL_law_X3_thrown : GoodIn wsL_law wsX3_thrown := goodIn_r _ [78, 69, 508, 509, 510, 511, 512, 513, 514, 515, 516, 517, 518, 519, 520, 521, 522, 523, 524, 525, 526] (by decide +kernel) (by decide +kernel)
set_option maxRecDepth 20000 in
theorem gL_law_X3_thrown : GoodIn wsL_law (wsV RL 81 RX3 yX3_thrown wsX3_thrown) := goodIn_app (goodIn_of _ (by decide +kernel)) ggL_law_X3_thrown
set_option maxRecDepth 20000 in
theorem ggL_law_L_bid : GoodIn wsL_law wsL_bid := goodIn_ca (goodIn_ca (goodIn_ca (goodIn_r _ [81, 82, 83, 47, 84, 85, 86, 2, 87, 88, 89, 90, 91, 52, 53, 92, 93, 94, 95, 14, 96, 97, 98, 99, 100, 101, 102, 103, 104, 105, 55, 106, 61, 107, 108, 109, 110, 59, 111, 112, 113, 114, 115, 116, 117, 118, 119, 120, 121, 122, 60, 502, 503, 504, 505, 506, 507, 527, 528, 529, 530, 531, 532] (by decide +kernel) (by decide +kernel)) (goodIn_sub (fun _ h => List.mem_append_left _ (List.mem_append_right _ h)) (by decide +kernel))) (goodIn_sub (fun _ h => List.mem_append_right _ h) (by decide +kernel))) (goodIn_sub (fun _ h => List.mem_append_left _ (List.mem_append_left _ (List.mem_append_right _ h))) (by decide +kernel))
set_option maxRecDepth 20000 in
theorem gL_law_L_bid : GoodIn wsL_law (va_wsS RL 84 yL_bid wsL_bid) := goodIn_app (goodIn_of _ (by decide +kernel)) ggL_law_L_bid
set_option maxRecDepth 20000 in
theorem ggL_law_X3_bid : GoodIn wsL_law wsX3_bid := goodIn_r _ [126, 69, 127, 26, 30, 128, 129, 130, 5, 131, 70, 132, 133, 134, 71, 72, 73, 74, 135, 136, 137, 138, 139, 140, 141, 142, 143, 144, 145, 32, 508, 509, 510, 511, 512, 513, 514, 515, 516, 517, 518, 519, 520, 521, 522, 523, 524, 525, 526] (by decide +kernel) (by decide +kernel)
set_option maxRecDepth 20000 in
theorem gL_law_X3_bid : GoodIn wsL_law (wsV RL 87 RX3 yX3_bid wsX3_bid) := goodIn_app (goodIn_of _ (by decide +kernel)) ggL_law_X3_bid
set_option maxRecDepth 20000 in
theorem ggL_law_L_withdraw : GoodIn wsL_law wsL_withdraw := goodIn_ca (goodIn_ca (goodIn_ca (goodIn_r _ [148, 82, 83, 47, 149, 150, 151, 2, 152, 88, 89, 90, 91, 52, 53, 92, 93, 94, 95, 14, 96, 97, 98, 103, 104, 105, 55, 106, 61, 153, 120, 121, 122, 59, 60, 154, 155, 156, 157, 158, 159, 160, 161, 502, 503, 504, 505, 506, 507, 527, 528, 529, 530, 531, 532] (by decide +kernel) (by decide +kernel)) (goodIn_sub (fun _ h => List.mem_append_left _ (List.mem_append_right _ h)) (by decide +kernel))) (goodIn_sub (fun _ h => List.mem_append_right _ h) (by decide +kernel))) (goodIn_sub (fun _ h => List.mem_append_left _ (List.mem_append_left _ (List.mem_append_right _ h))) (by decide +kernel))
set_option maxRecDepth 20000 in
theorem gL_law_L_withdraw : GoodIn wsL_law (va_wsS RL 88 yL_withdraw wsL_withdraw) := goodIn_app (goodIn_of _ (by decide +kernel)) ggL_law_L_withdraw
set_option maxRecDepth 20000 in
theorem ggL_law_X3_withdraw : GoodIn wsL_law wsX3_withdraw := goodIn_r _ [165, 69, 26, 32, 30, 128, 129, 130, 5, 131, 70, 132, 133, 134, 71, 72, 73, 74, 135, 136, 137, 142, 143, 144, 145, 508, 509, 510, 511, 512, 513, 514, 515, 516, 517, 518, 519, 520, 521, 522, 523, 524, 525, 526] (by decide +kernel) (by decide +kernel)
set_option maxRecDepth 20000 in
theorem gL_law_X3_withdraw : GoodIn wsL_law (wsV RL 91 RX3 yX3_withdraw wsX3_withdraw) := goodIn_app (goodIn_of _ (by decide +kernel)) ggL_law_X3_withdraw
set_option maxRecDepth 20000 in
theorem ggL_law_L_award : GoodIn wsL_law wsL_award := goodIn_ca (goodIn_ca (goodIn_r _ [168, 82, 47, 169, 170, 171, 2, 172, 88, 89, 52, 53, 92, 93, 94, 95, 14, 103, 104, 105, 55, 106, 61, 173, 174, 175, 176, 62, 119, 120, 121, 122, 59, 60, 97, 98, 177, 159, 160, 161, 178, 179, 180, 181, 502, 503, 504, 505, 506, 507, 527, 528, 529, 530, 531, 532] (by decide +kernel) (by decide +kernel)) (goodIn_sub (fun _ h => List.mem_append_left _ (List.mem_append_right _ h)) (by decide +kernel))) (goodIn_sub (fun _ h => List.mem_append_left _ (List.mem_append_left _ (List.mem_append_right _ h))) (by decide +kernel))
set_option maxRecDepth 20000 in
theorem gL_law_L_award : GoodIn wsL_law (va_wsS RL 92 yL_award wsL_award) := goodIn_app (goodIn_of _ (by decide +kernel)) ggL_law_L_award
set_option maxRecDepth 20000 in
theorem ggL_law_X3_award : GoodIn wsL_law wsX3_award := goodIn_r _ [185, 69, 26, 30, 27, 128, 129, 130, 5, 131, 70, 132, 133, 134, 71, 72, 73, 74, 142, 143, 144, 145, 32, 508, 509, 510, 511, 512, 513, 514, 515, 516, 517, 518, 519, 520, 521, 522, 523, 524, 525, 526] (by decide +kernel) (by decide +kernel)
set_option maxRecDepth 20000 in
theorem gL_law_X3_award : GoodIn wsL_law (wsV RL 95 RX3 yX3_award wsX3_award) := goodIn_app (goodIn_of _ (by decide +kernel)) ggL_law_X3_award
set_option maxRecDepth 20000 in
theorem ggL_law_L_passOn : GoodIn wsL_law wsL_passOn := goodIn_ca (goodIn_ca (goodIn_ca (goodIn_r _ [188, 82, 47, 83, 189, 190, 191, 2, 192, 88, 89, 52, 53, 90, 91, 92, 93, 94, 95, 14, 193, 194, 195, 55, 196, 62, 197, 198, 199, 200, 63, 178, 179, 180, 181, 96, 97, 98, 158, 159, 160, 161, 59, 201, 202, 203, 204, 64, 502, 503, 504, 505, 506, 507, 527, 528, 529, 530, 531, 532] (by decide +kernel) (by decide +kernel)) (goodIn_sub (fun _ h => List.mem_append_left _ (List.mem_append_right _ h)) (by decide +kernel))) (goodIn_sub (fun _ h => List.mem_append_left _ (List.mem_append_left _ (List.mem_append_right _ h))) (by decide +kernel))) (goodIn_sub (fun _ h => List.mem_append_right _ h) (by decide +kernel))
set_option maxRecDepth 20000 in
theorem gL_law_L_passOn : GoodIn wsL_law (va_wsS RL 96 yL_passOn wsL_passOn) := goodIn_app (goodIn_of _ (by decide +kernel)) ggL_law_L_passOn
set_option maxRecDepth 20000 in
theorem ggL_law_X3_passOn : GoodIn wsL_law wsX3_passOn := goodIn_r _ [208, 69, 26, 28, 27, 29, 128, 129, 130, 5, 131, 70, 132, 133, 134, 71, 72, 73, 74, 135, 136, 137, 209, 210, 211, 212, 30, 508, 509, 510, 511, 512, 513, 514, 515, 516, 517, 518, 519, 520, 521, 522, 523, 524, 525, 526] (by decide +kernel) (by decide +kernel)
set_option maxRecDepth 20000 in
theorem gL_law_X3_passOn : GoodIn wsL_law (wsV RL 98 RX3 yX3_passOn wsX3_passOn) := goodIn_app (goodIn_of _ (by decide +kernel)) ggL_law_X3_passOn
set_option maxRecDepth 20000 in
theorem ggL_law_L_turnover : GoodIn wsL_law wsL_turnover := goodIn_ca (goodIn_r _ [215, 83, 216, 217, 218, 2, 219, 90, 91, 96, 97, 98, 220, 221, 222, 223, 14, 224, 225, 226, 55, 227, 62, 64, 63, 177, 159, 160, 161, 59, 502, 503, 504, 505, 506, 507, 527, 528, 529, 530, 531, 532] (by decide +kernel) (by decide +kernel)) (goodIn_sub (fun _ h => List.mem_append_right _ h) (by decide +kernel))
set_option maxRecDepth 20000 in
theorem gL_law_L_turnover : GoodIn wsL_law (va_wsS RL 99 yL_turnover wsL_turnover) := goodIn_app (goodIn_of _ (by decide +kernel)) ggL_law_L_turnover
set_option maxRecDepth 20000 in
theorem ggL_law_X3_turnover : GoodIn wsL_law wsX3_turnover := goodIn_r _ [231, 69, 135, 136, 5, 137, 132, 133, 134, 232, 233, 234, 235, 70, 26, 27, 29, 28, 209, 210, 211, 212, 30, 71, 72, 73, 74, 508, 509, 510, 511, 512, 513, 514, 515, 516, 517, 518, 519, 520, 521, 522, 523, 524, 525, 526] (by decide +kernel) (by decide +kernel)
set_option maxRecDepth 20000 in
theorem gL_law_X3_turnover : GoodIn wsL_law (wsV RL 101 RX3 yX3_turnover wsX3_turnover) := goodIn_app (goodIn_of _ (by decide +kernel)) ggL_law_X3_turnover
set_option maxRecDepth 20000 in
theorem ggL_law_L_won : GoodIn wsL_law wsL_won := goodIn_ca (goodIn_r _ [238, 83, 239, 240, 241, 2, 242, 90, 91, 14, 96, 97, 98, 178, 179, 180, 55, 181, 62, 502, 503, 504, 505, 506, 507, 527, 528, 529, 530, 531, 532] (by decide +kernel) (by decide +kernel)) (goodIn_sub (fun _ h => List.mem_append_right _ h) (by decide +kernel))
set_option maxRecDepth 20000 in
theorem gL_law_L_won : GoodIn wsL_law (va_wsS RL 102 yL_won wsL_won) := goodIn_app (goodIn_of _ (by decide +kernel)) ggL_law_L_won
set_option maxRecDepth 20000 in
theorem ggL_law_X3_won : GoodIn wsL_law wsX3_won := goodIn_r _ [246, 69, 70, 26, 27, 135, 136, 5, 137, 132, 133, 134, 71, 72, 73, 74, 508, 509, 510, 511, 512, 513, 514, 515, 516, 517, 518, 519, 520, 521, 522, 523, 524, 525, 526] (by decide +kernel) (by decide +kernel)
set_option maxRecDepth 20000 in
theorem gL_law_X3_won : GoodIn wsL_law (wsV RL 104 RX3 yX3_won wsX3_won) := goodIn_app (goodIn_of _ (by decide +kernel)) ggL_law_X3_won
set_option maxRecDepth 20000 in
theorem ggL_law_L_suspicion : GoodIn wsL_law wsL_suspicion := goodIn_ca (goodIn_r _ [249, 83, 250, 251, 252, 2, 253, 90, 91, 254, 255, 256, 96, 97, 98, 257, 258, 259, 260, 14, 261, 262, 263, 264, 92, 93, 94, 95, 178, 179, 180, 55, 181, 62, 265, 266, 267, 268, 63, 119, 120, 121, 122, 59, 60, 177, 159, 160, 161, 269, 270, 271, 272, 273, 108, 109, 110, 274, 275, 276, 277, 153, 278, 279, 280, 281, 193, 194, 195, 196, 502, 503, 504, 505, 506, 507, 527, 528, 529, 530, 531, 532] (by decide +kernel) (by decide +kernel)) (goodIn_sub (fun _ h => List.mem_append_right _ h) (by decide +kernel))
set_option maxRecDepth 20000 in
theorem gL_law_L_suspicion : GoodIn wsL_law (va_wsS RL 105 yL_suspicion wsL_suspicion) := goodIn_app (goodIn_of _ (by decide +kernel)) ggL_law_L_suspicion
set_option maxRecDepth 20000 in
theorem ggL_law_X3_suspicion : GoodIn wsL_law wsX3_suspicion := goodIn_r _ [285, 69, 286, 287, 5, 288, 135, 136, 137, 132, 133, 134, 289, 290, 291, 292, 70, 293, 294, 295, 296, 26, 27, 30, 28, 32, 209, 210, 211, 212, 142, 143, 144, 145, 297, 298, 299, 300, 71, 72, 73, 74, 508, 509, 510, 511, 512, 513, 514, 515, 516, 517, 518, 519, 520, 521, 522, 523, 524, 525, 526] (by decide +kernel) (by decide +kernel)
set_option maxRecDepth 20000 in
theorem gL_law_X3_suspicion : GoodIn wsL_law (wsV RL 107 RX3 yX3_suspicion wsX3_suspicion) := goodIn_app (goodIn_of _ (by decide +kernel)) ggL_law_X3_suspicion
set_option maxRecDepth 20000 in
theorem ggL_law_L_sign : GoodIn wsL_law wsL_sign := goodIn_ca (goodIn_ca (goodIn_r _ [303, 82, 83, 304, 305, 306, 2, 307, 88, 89, 90, 91, 92, 93, 94, 95, 14, 254, 255, 256, 96, 97, 98, 261, 262, 263, 264, 178, 179, 180, 55, 181, 62, 265, 266, 267, 268, 63, 119, 120, 121, 122, 59, 60, 177, 159, 160, 161, 269, 270, 271, 272, 273, 108, 109, 110, 274, 275, 276, 277, 153, 278, 279, 280, 281, 193, 194, 195, 196, 502, 503, 504, 505, 506, 507, 527, 528, 529, 530, 531, 532] (by decide +kernel) (by decide +kernel)) (goodIn_sub (fun _ h => List.mem_append_left _ (List.mem_append_right _ h)) (by decide +kernel))) (goodIn_sub (fun _ h => List.mem_append_right _ h) (by decide +kernel))
set_option maxRecDepth 20000 in
theorem gL_law_L_sign : GoodIn wsL_law (va_wsS RL 108 yL_sign wsL_sign) := goodIn_app (goodIn_of _ (by decide +kernel)) ggL_law_L_sign
set_option maxRecDepth 20000 in
theorem ggL_law_X3_sign : GoodIn wsL_law wsX3_sign := goodIn_r _ [311, 69, 128, 129, 130, 5, 131, 70, 132, 133, 134, 71, 72, 73, 74, 286, 287, 288, 135, 136, 137, 293, 294, 295, 296, 26, 27, 30, 28, 32, 209, 210, 211, 212, 142, 143, 144, 145, 297, 298, 299, 300, 508, 509, 510, 511, 512, 513, 514, 515, 516, 517, 518, 519, 520, 521, 522, 523, 524, 525, 526] (by decide +kernel) (by decide +kernel)
set_option maxRecDepth 20000 in
theorem gL_law_X3_sign : GoodIn wsL_law (wsV RL 110 RX3 yX3_sign wsX3_sign) := goodIn_app (goodIn_of _ (by decide +kernel)) ggL_law_X3_sign
set_option maxRecDepth 20000 in
theorem ggL_law_L_setMark : GoodIn wsL_law wsL_setMark := goodIn_ca (goodIn_r _ [314, 83, 315, 316, 317, 2, 318, 90, 91, 21, 502, 503, 504, 505, 506, 507] (by decide +kernel) (by decide +kernel)) (goodIn_sub (fun _ h => List.mem_append_right _ h) (by decide +kernel))
set_option maxRecDepth 20000 in
theorem gL_law_L_setMark : GoodIn wsL_law (va_wsS RL 111 yL_setMark wsL_setMark) := goodIn_app (goodIn_of _ (by decide +kernel)) ggL_law_L_setMark
set_option maxRecDepth 20000 in
theorem ggL_law_X3_setMark : GoodIn wsL_law wsX3_setMark := goodIn_r _ [322, 69, 33, 132, 133, 5, 134, 71, 72, 73, 74, 508, 509, 510, 511, 512, 513, 514, 515, 516, 517, 518, 519, 520, 521, 522, 523, 524, 525, 526] (by decide +kernel) (by decide +kernel)
set_option maxRecDepth 20000 in
theorem gL_law_X3_setMark : GoodIn wsL_law (wsV RL 113 RX3 yX3_setMark wsX3_setMark) := goodIn_app (goodIn_of _ (by decide +kernel)) ggL_law_X3_setMark
set_option maxRecDepth 20000 in
theorem ggL_law_X2_worst : GoodIn wsL_law wsX2_worst := goodIn_r _ [326, 257, 258, 259, 2, 260, 14, 261, 262, 263, 264, 92, 93, 94, 95, 178, 179, 180, 55, 181, 62, 265, 266, 267, 268, 63, 119, 120, 121, 122, 59, 60, 97, 98, 177, 159, 160, 161, 269, 270, 271, 272, 273, 108, 109, 110, 274, 275, 276, 277, 153, 278, 279, 280, 281, 193, 194, 195, 196, 502, 503, 504, 505, 506, 507, 527, 528, 529, 530, 531, 532] (by decide +kernel) (by decide +kernel)
set_option maxRecDepth 20000 in
theorem gL_law_X2_worst : GoodIn wsL_law (wsV RL 114 RX2 yX2_worst wsX2_worst) := goodIn_app (goodIn_of _ (by decide +kernel)) ggL_law_X2_worst
set_option maxRecDepth 20000 in
theorem ggL_law_X3_worst : GoodIn wsL_law wsX3_worst := goodIn_r _ [330, 69, 289, 290, 291, 5, 292, 70, 293, 294, 295, 296, 26, 27, 30, 28, 32, 209, 210, 211, 212, 142, 143, 144, 145, 297, 298, 299, 300, 508, 509, 510, 511, 512, 513, 514, 515, 516, 517, 518, 519, 520, 521, 522, 523, 524, 525, 526] (by decide +kernel) (by decide +kernel)
set_option maxRecDepth 20000 in
theorem gL_law_X3_worst : GoodIn wsL_law (wsV RL 117 RX3 yX3_worst wsX3_worst) := goodIn_app (goodIn_of _ (by decide +kernel)) ggL_law_X3_worst
set_option maxRecDepth 20000 in
theorem ggL_law_L_file : GoodIn wsL_law wsL_file := goodIn_ca (goodIn_ca (goodIn_r _ [333, 83, 47, 334, 335, 336, 2, 337, 90, 91, 52, 53, 18, 17, 21, 16, 338, 339, 14, 254, 255, 256, 96, 97, 98, 340, 341, 342, 343, 344, 345, 346, 347, 348, 349, 257, 258, 259, 260, 261, 262, 263, 264, 92, 93, 94, 95, 178, 179, 180, 55, 181, 62, 265, 266, 267, 268, 63, 119, 120, 121, 122, 59, 60, 177, 159, 160, 161, 269, 270, 271, 272, 273, 108, 109, 110, 274, 275, 276, 277, 153, 278, 279, 280, 281, 193, 194, 195, 196, 350, 351, 352, 353, 11, 12, 31, 354, 19, 355, 356, 357, 358, 359, 360, 361, 362, 363, 502, 503, 504, 505, 506, 507, 533, 534, 535, 536, 537, 538, 539, 540, 527, 528, 529, 530, 531, 532] (by decide +kernel) (by decide +kernel)) (goodIn_sub (fun _ h => List.mem_append_right _ h) (by decide +kernel))) (goodIn_sub (fun _ h => List.mem_append_left _ (List.mem_append_left _ (List.mem_append_right _ h))) (by decide +kernel))
set_option maxRecDepth 20000 in
theorem gL_law_L_file : GoodIn wsL_law (va_wsS RL 118 yL_file wsL_file) := goodIn_app (goodIn_of _ (by decide +kernel)) ggL_law_L_file
set_option maxRecDepth 20000 in
theorem ggL_law_X3_file : GoodIn wsL_law wsX3_file := goodIn_r _ [367, 69, 368, 34, 35, 33, 38, 70, 36, 286, 287, 5, 288, 135, 136, 137, 132, 133, 134, 71, 72, 73, 74, 289, 290, 291, 292, 293, 294, 295, 296, 26, 27, 30, 28, 32, 209, 210, 211, 212, 142, 143, 144, 145, 297, 298, 299, 300, 508, 509, 510, 511, 512, 513, 514, 515, 516, 517, 518, 519, 520, 521, 522, 523, 524, 525, 526] (by decide +kernel) (by decide +kernel)
set_option maxRecDepth 20000 in
theorem gL_law_X3_file : GoodIn wsL_law (wsV RL 120 RX3 yX3_file wsX3_file) := goodIn_app (goodIn_of _ (by decide +kernel)) ggL_law_X3_file
set_option maxRecDepth 20000 in
theorem ggL_law_L_matters : GoodIn wsL_law wsL_matters := goodIn_ca (goodIn_r _ [371, 82, 372, 373, 374, 2, 375, 88, 89, 376, 377, 378, 379, 17, 380, 381, 382, 339, 383, 357, 502, 503, 504, 505, 506, 507, 533, 534, 535, 536, 537, 538, 539, 540] (by decide +kernel) (by decide +kernel)) (goodIn_sub (fun _ h => List.mem_append_left _ (List.mem_append_right _ h)) (by decide +kernel))
set_option maxRecDepth 20000 in
theorem gL_law_L_matters : GoodIn wsL_law (va_wsS RL 121 yL_matters wsL_matters) := goodIn_app (goodIn_of _ (by decide +kernel)) ggL_law_L_matters
set_option maxRecDepth 20000 in
theorem ggL_law_X3_matters : GoodIn wsL_law wsX3_matters := goodIn_r _ [387, 69, 36, 388, 389, 390, 5, 391, 368, 132, 133, 134, 392, 393, 394, 71, 72, 73, 74, 508, 509, 510, 511, 512, 513, 514, 515, 516, 517, 518, 519, 520, 521, 522, 523, 524, 525, 526] (by decide +kernel) (by decide +kernel)
set_option maxRecDepth 20000 in
theorem gL_law_X3_matters : GoodIn wsL_law (wsV RL 123 RX3 yX3_matters wsX3_matters) := goodIn_app (goodIn_of _ (by decide +kernel)) ggL_law_X3_matters
set_option maxRecDepth 20000 in
theorem ggL_law_L_tell : GoodIn wsL_law wsL_tell := goodIn_ca (goodIn_ca (goodIn_ca (goodIn_r _ [397, 82, 83, 47, 398, 399, 400, 2, 401, 88, 89, 90, 91, 52, 53, 376, 377, 378, 379, 17, 92, 93, 94, 95, 14, 344, 345, 346, 339, 347, 348, 349, 402, 403, 404, 405, 359, 406, 407, 408, 409, 354, 355, 358, 97, 98, 502, 503, 504, 505, 506, 507, 533, 534, 535, 536, 537, 538, 539, 540] (by decide +kernel) (by decide +kernel)) (goodIn_sub (fun _ h => List.mem_append_left _ (List.mem_append_right _ h)) (by decide +kernel))) (goodIn_sub (fun _ h => List.mem_append_right _ h) (by decide +kernel))) (goodIn_sub (fun _ h => List.mem_append_left _ (List.mem_append_left _ (List.mem_append_right _ h))) (by decide +kernel))
set_option maxRecDepth 20000 in
theorem gL_law_L_tell : GoodIn wsL_law (va_wsS RL 124 yL_tell wsL_tell) := goodIn_app (goodIn_of _ (by decide +kernel)) ggL_law_L_tell
set_option maxRecDepth 20000 in
theorem ggL_law_X3_tell : GoodIn wsL_law wsX3_tell := goodIn_r _ [413, 41, 69, 36, 37, 38, 39, 34, 388, 389, 390, 5, 391, 368, 132, 133, 134, 128, 129, 130, 131, 70, 414, 415, 416, 417, 35, 508, 509, 510, 511, 512, 513, 514, 515, 516, 517, 518, 519, 520, 521, 522, 523, 524, 525, 526] (by decide +kernel) (by decide +kernel)
set_option maxRecDepth 20000 in
theorem gL_law_X3_tell : GoodIn wsL_law (wsV RL 126 RX3 yX3_tell wsX3_tell) := goodIn_app (goodIn_of _ (by decide +kernel)) ggL_law_X3_tell
set_option maxRecDepth 20000 in
theorem ggL_law_L_compensate : GoodIn wsL_law wsL_compensate := goodIn_ca (goodIn_r _ [420, 83, 421, 422, 423, 2, 424, 90, 91, 20, 96, 97, 98, 99, 100, 101, 102, 502, 503, 504, 505, 506, 507] (by decide +kernel) (by decide +kernel)) (goodIn_sub (fun _ h => List.mem_append_right _ h) (by decide +kernel))
set_option maxRecDepth 20000 in
theorem gL_law_L_compensate : GoodIn wsL_law (va_wsS RL 127 yL_compensate wsL_compensate) := goodIn_app (goodIn_of _ (by decide +kernel)) ggL_law_L_compensate
set_option maxRecDepth 20000 in
theorem ggL_law_X3_compensate : GoodIn wsL_law wsX3_compensate := goodIn_r _ [428, 69, 127, 42, 135, 136, 5, 137, 132, 133, 134, 71, 72, 73, 74, 508, 509, 510, 511, 512, 513, 514, 515, 516, 517, 518, 519, 520, 521, 522, 523, 524, 525, 526] (by decide +kernel) (by decide +kernel)
set_option maxRecDepth 20000 in
theorem gL_law_X3_compensate : GoodIn wsL_law (wsV RL 129 RX3 yX3_compensate wsX3_compensate) := goodIn_app (goodIn_of _ (by decide +kernel)) ggL_law_X3_compensate
set_option maxRecDepth 20000 in
theorem ggL_law_L_close : GoodIn wsL_law wsL_close := goodIn_ca (goodIn_ca (goodIn_r _ [431, 82, 47, 432, 433, 434, 2, 435, 88, 89, 52, 53, 376, 377, 378, 379, 17, 402, 403, 404, 339, 405, 359, 436, 437, 438, 439, 440, 441, 442, 443, 348, 444, 445, 446, 447, 20, 448, 449, 450, 451, 96, 97, 98, 220, 221, 222, 223, 14, 224, 225, 226, 55, 227, 62, 64, 63, 177, 159, 160, 161, 59, 452, 453, 454, 455, 355, 358, 357, 456, 457, 458, 459, 356, 460, 461, 462, 463, 349, 502, 503, 504, 505, 506, 507, 533, 534, 535, 536, 537, 538, 539, 540, 527, 528, 529, 530, 531, 532] (by decide +kernel) (by decide +kernel)) (goodIn_sub (fun _ h => List.mem_append_left _ (List.mem_append_right _ h)) (by decide +kernel))) (goodIn_sub (fun _ h => List.mem_append_left _ (List.mem_append_left _ (List.mem_append_right _ h))) (by decide +kernel))
set_option maxRecDepth 20000 in
theorem gL_law_L_close : GoodIn wsL_law (va_wsS RL 130 yL_close wsL_close) := goodIn_app (goodIn_of _ (by decide +kernel)) ggL_law_L_close
set_option maxRecDepth 20000 in
theorem ggL_law_X3_close : GoodIn wsL_law wsX3_close := goodIn_r _ [467, 69, 41, 40, 34, 39, 35, 388, 389, 390, 5, 391, 368, 132, 133, 134, 71, 72, 73, 74, 468, 469, 470, 471, 38, 36, 42, 232, 233, 234, 235, 70, 26, 27, 29, 28, 209, 210, 211, 212, 30, 392, 393, 394, 508, 509, 510, 511, 512, 513, 514, 515, 516, 517, 518, 519, 520, 521, 522, 523, 524, 525, 526] (by decide +kernel) (by decide +kernel)
set_option maxRecDepth 20000 in
theorem gL_law_X3_close : GoodIn wsL_law (wsV RL 132 RX3 yX3_close wsX3_close) := goodIn_app (goodIn_of _ (by decide +kernel)) ggL_law_X3_close
set_option maxRecDepth 20000 in
theorem ggL_law_L_fine : GoodIn wsL_law wsL_fine := goodIn_ca (goodIn_ca (goodIn_r _ [474, 82, 83, 475, 476, 477, 2, 478, 88, 89, 90, 91, 376, 377, 378, 379, 17, 344, 345, 346, 339, 347, 348, 349, 479, 480, 481, 482, 356, 97, 98, 502, 503, 504, 505, 506, 507, 533, 534, 535, 536, 537, 538, 539, 540] (by decide +kernel) (by decide +kernel)) (goodIn_sub (fun _ h => List.mem_append_left _ (List.mem_append_right _ h)) (by decide +kernel))) (goodIn_sub (fun _ h => List.mem_append_right _ h) (by decide +kernel))
set_option maxRecDepth 20000 in
theorem gL_law_L_fine : GoodIn wsL_law (va_wsS RL 133 yL_fine wsL_fine) := goodIn_app (goodIn_of _ (by decide +kernel)) ggL_law_L_fine
set_option maxRecDepth 20000 in
theorem ggL_law_X3_fine : GoodIn wsL_law wsX3_fine := goodIn_r _ [486, 69, 40, 34, 388, 389, 390, 5, 391, 368, 132, 133, 134, 71, 72, 73, 74, 414, 415, 416, 417, 35, 508, 509, 510, 511, 512, 513, 514, 515, 516, 517, 518, 519, 520, 521, 522, 523, 524, 525, 526] (by decide +kernel) (by decide +kernel)
set_option maxRecDepth 20000 in
theorem gL_law_X3_fine : GoodIn wsL_law (wsV RL 135 RX3 yX3_fine wsX3_fine) := goodIn_app (goodIn_of _ (by decide +kernel)) ggL_law_X3_fine
