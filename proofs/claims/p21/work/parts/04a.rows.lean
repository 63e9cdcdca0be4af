theorem inJ9 : ∀ w ∈ wsJ90, w ∈ lw_tbl := by decide +kernel
theorem inJ0 : ∀ w ∈ wsJ00, w ∈ lw_tbl := by decide +kernel
theorem dX0_init_0 : decode cX0_init 0 = .ok (.aload_n 0, 1) := by decide +kernel
theorem dX0_init_1 : decode cX0_init 1 = .ok (.invokespecial 3, 3) := by decide +kernel
theorem dX0_init_4 : decode cX0_init 4 = .ok (.aload_n 0, 1) := by decide +kernel
theorem dX0_init_5 : decode cX0_init 5 = .ok (.bipush 30, 2) := by decide +kernel
theorem dX0_init_7 : decode cX0_init 7 = .ok (.newarray .boolean, 2) := by decide +kernel
theorem dX0_init_9 : decode cX0_init 9 = .ok (.putfield 9, 3) := by decide +kernel
theorem dX0_init_12 : decode cX0_init 12 = .ok (.aload_n 0, 1) := by decide +kernel
theorem dX0_init_13 : decode cX0_init 13 = .ok (.bipush 7, 2) := by decide +kernel
theorem dX0_init_15 : decode cX0_init 15 = .ok (.newarray .int, 2) := by decide +kernel
theorem dX0_init_17 : decode cX0_init 17 = .ok (.putfield 15, 3) := by decide +kernel
theorem dX0_init_20 : decode cX0_init 20 = .ok (.aload_n 0, 1) := by decide +kernel
theorem dX0_init_21 : decode cX0_init 21 = .ok (.bipush 7, 2) := by decide +kernel
theorem dX0_init_23 : decode cX0_init 23 = .ok (.newarray .int, 2) := by decide +kernel
theorem dX0_init_25 : decode cX0_init 25 = .ok (.putfield 19, 3) := by decide +kernel
theorem dX0_init_28 : decode cX0_init 28 = .ok (.aload_n 0, 1) := by decide +kernel
theorem dX0_init_29 : decode cX0_init 29 = .ok (.iconst 0, 1) := by decide +kernel
theorem dX0_init_30 : decode cX0_init 30 = .ok (.putfield 22, 3) := by decide +kernel
theorem dX0_init_33 : decode cX0_init 33 = .ok (.aload_n 0, 1) := by decide +kernel
theorem dX0_init_34 : decode cX0_init 34 = .ok (.iconst (-1), 1) := by decide +kernel
theorem dX0_init_35 : decode cX0_init 35 = .ok (.putfield 26, 3) := by decide +kernel
theorem dX0_init_38 : decode cX0_init 38 = .ok (.aload_n 0, 1) := by decide +kernel
theorem dX0_init_39 : decode cX0_init 39 = .ok (.iconst 0, 1) := by decide +kernel
theorem dX0_init_40 : decode cX0_init 40 = .ok (.putfield 29, 3) := by decide +kernel
theorem dX0_init_43 : decode cX0_init 43 = .ok (.aload_n 0, 1) := by decide +kernel
theorem dX0_init_44 : decode cX0_init 44 = .ok (.iload_n 1, 1) := by decide +kernel
theorem dX0_init_45 : decode cX0_init 45 = .ok (.putfield 33, 3) := by decide +kernel
theorem dX0_init_48 : decode cX0_init 48 = .ok (.aload_n 0, 1) := by decide +kernel
theorem dX0_init_49 : decode cX0_init 49 = .ok (.iload_n 2, 1) := by decide +kernel
theorem dX0_init_50 : decode cX0_init 50 = .ok (.putfield 36, 3) := by decide +kernel
theorem dX0_init_53 : decode cX0_init 53 = .ok (.return_, 1) := by decide +kernel
theorem dX0_one_0 : decode cX0_one 0 = .ok (.aload_n 0, 1) := by decide +kernel
theorem dX0_one_1 : decode cX0_one 1 = .ok (.getfield 33, 3) := by decide +kernel
theorem dX0_one_4 : decode cX0_one 4 = .ok (.ireturn, 1) := by decide +kernel
theorem dX0_other_0 : decode cX0_other 0 = .ok (.aload_n 0, 1) := by decide +kernel
theorem dX0_other_1 : decode cX0_other 1 = .ok (.getfield 36, 3) := by decide +kernel
theorem dX0_other_4 : decode cX0_other 4 = .ok (.ireturn, 1) := by decide +kernel
theorem dX0_isOf_0 : decode cX0_isOf 0 = .ok (.iload_n 1, 1) := by decide +kernel
theorem dX0_isOf_1 : decode cX0_isOf 1 = .ok (.aload_n 0, 1) := by decide +kernel
theorem dX0_isOf_2 : decode cX0_isOf 2 = .ok (.getfield 33, 3) := by decide +kernel
theorem dX0_isOf_5 : decode cX0_isOf 5 = .ok (.if_icmp .eq 11, 3) := by decide +kernel
theorem dX0_isOf_8 : decode cX0_isOf 8 = .ok (.iload_n 1, 1) := by decide +kernel
theorem dX0_isOf_9 : decode cX0_isOf 9 = .ok (.aload_n 0, 1) := by decide +kernel
theorem dX0_isOf_10 : decode cX0_isOf 10 = .ok (.getfield 36, 3) := by decide +kernel
theorem dX0_isOf_13 : decode cX0_isOf 13 = .ok (.if_icmp .ne 7, 3) := by decide +kernel
theorem dX0_isOf_16 : decode cX0_isOf 16 = .ok (.iconst 1, 1) := by decide +kernel
theorem dX0_isOf_17 : decode cX0_isOf 17 = .ok (.goto 4, 3) := by decide +kernel
theorem dX0_isOf_20 : decode cX0_isOf 20 = .ok (.iconst 0, 1) := by decide +kernel
theorem dX0_isOf_21 : decode cX0_isOf 21 = .ok (.ireturn, 1) := by decide +kernel
theorem dX0_isClosed_0 : decode cX0_isClosed 0 = .ok (.aload_n 0, 1) := by decide +kernel
theorem dX0_isClosed_1 : decode cX0_isClosed 1 = .ok (.getfield 29, 3) := by decide +kernel
theorem dX0_isClosed_4 : decode cX0_isClosed 4 = .ok (.ireturn, 1) := by decide +kernel
theorem dX0_shut_0 : decode cX0_shut 0 = .ok (.aload_n 0, 1) := by decide +kernel
theorem dX0_shut_1 : decode cX0_shut 1 = .ok (.iconst 1, 1) := by decide +kernel
theorem dX0_shut_2 : decode cX0_shut 2 = .ok (.putfield 29, 3) := by decide +kernel
theorem dX0_shut_5 : decode cX0_shut 5 = .ok (.return_, 1) := by decide +kernel
theorem dX0_matterCount_0 : decode cX0_matterCount 0 = .ok (.aload_n 0, 1) := by decide +kernel
theorem dX0_matterCount_1 : decode cX0_matterCount 1 = .ok (.getfield 22, 3) := by decide +kernel
theorem dX0_matterCount_4 : decode cX0_matterCount 4 = .ok (.ireturn, 1) := by decide +kernel
theorem dX0_first_0 : decode cX0_first 0 = .ok (.aload_n 0, 1) := by decide +kernel
theorem dX0_first_1 : decode cX0_first 1 = .ok (.getfield 26, 3) := by decide +kernel
theorem dX0_first_4 : decode cX0_first 4 = .ok (.ireturn, 1) := by decide +kernel
set_option maxRecDepth 20000 in
theorem ggX0_fineOf_X2_isBidder : GoodIn wsX0_fineOf wsX2_isBidder := goodIn_r _ [4] (by decide +kernel) (by decide +kernel)
set_option maxRecDepth 20000 in
theorem gX0_fineOf_X2_isBidder_n39 : GoodIn wsX0_fineOf (wsX2_isBidder) := ggX0_fineOf_X2_isBidder
theorem dX0_fineOf_0 : decode cX0_fineOf 0 = .ok (.iload_n 1, 1) := by decide +kernel
theorem dX0_fineOf_1 : decode cX0_fineOf 1 = .ok (.invokestatic 39, 3) := by decide +kernel
theorem dX0_fineOf_4 : decode cX0_fineOf 4 = .ok (.ifCond .eq 12, 3) := by decide +kernel
theorem dX0_fineOf_7 : decode cX0_fineOf 7 = .ok (.aload_n 0, 1) := by decide +kernel
theorem dX0_fineOf_8 : decode cX0_fineOf 8 = .ok (.getfield 19, 3) := by decide +kernel
theorem dX0_fineOf_11 : decode cX0_fineOf 11 = .ok (.iload_n 1, 1) := by decide +kernel
theorem dX0_fineOf_12 : decode cX0_fineOf 12 = .ok (.iaload, 1) := by decide +kernel
theorem dX0_fineOf_13 : decode cX0_fineOf 13 = .ok (.goto 4, 3) := by decide +kernel
theorem dX0_fineOf_16 : decode cX0_fineOf 16 = .ok (.iconst 0, 1) := by decide +kernel
theorem dX0_fineOf_17 : decode cX0_fineOf 17 = .ok (.ireturn, 1) := by decide +kernel
set_option maxRecDepth 20000 in
theorem ggX0_impose_X2_isBidder : GoodIn wsX0_impose wsX2_isBidder := goodIn_r _ [4] (by decide +kernel) (by decide +kernel)
set_option maxRecDepth 20000 in
theorem gX0_impose_X2_isBidder_n39 : GoodIn wsX0_impose (wsX2_isBidder) := ggX0_impose_X2_isBidder
theorem dX0_impose_0 : decode cX0_impose 0 = .ok (.iload_n 1, 1) := by decide +kernel
theorem dX0_impose_1 : decode cX0_impose 1 = .ok (.invokestatic 39, 3) := by decide +kernel
theorem dX0_impose_4 : decode cX0_impose 4 = .ok (.ifCond .eq 10, 3) := by decide +kernel
theorem dX0_impose_7 : decode cX0_impose 7 = .ok (.aload_n 0, 1) := by decide +kernel
theorem dX0_impose_8 : decode cX0_impose 8 = .ok (.getfield 19, 3) := by decide +kernel
theorem dX0_impose_11 : decode cX0_impose 11 = .ok (.iload_n 1, 1) := by decide +kernel
theorem dX0_impose_12 : decode cX0_impose 12 = .ok (.iload_n 2, 1) := by decide +kernel
theorem dX0_impose_13 : decode cX0_impose 13 = .ok (.iastore, 1) := by decide +kernel
theorem dX0_impose_14 : decode cX0_impose 14 = .ok (.return_, 1) := by decide +kernel
theorem dX0_addMatter_0 : decode cX0_addMatter 0 = .ok (.iload_n 1, 1) := by decide +kernel
theorem dX0_addMatter_1 : decode cX0_addMatter 1 = .ok (.ifCond .lt 29, 3) := by decide +kernel
theorem dX0_addMatter_4 : decode cX0_addMatter 4 = .ok (.iload_n 1, 1) := by decide +kernel
theorem dX0_addMatter_5 : decode cX0_addMatter 5 = .ok (.aload_n 0, 1) := by decide +kernel
theorem dX0_addMatter_6 : decode cX0_addMatter 6 = .ok (.getfield 9, 3) := by decide +kernel
theorem dX0_addMatter_9 : decode cX0_addMatter 9 = .ok (.arraylength, 1) := by decide +kernel
theorem dX0_addMatter_10 : decode cX0_addMatter 10 = .ok (.if_icmp .ge 20, 3) := by decide +kernel
theorem dX0_addMatter_13 : decode cX0_addMatter 13 = .ok (.aload_n 0, 1) := by decide +kernel
theorem dX0_addMatter_14 : decode cX0_addMatter 14 = .ok (.getfield 9, 3) := by decide +kernel
theorem dX0_addMatter_17 : decode cX0_addMatter 17 = .ok (.iload_n 1, 1) := by decide +kernel
theorem dX0_addMatter_18 : decode cX0_addMatter 18 = .ok (.iconst 1, 1) := by decide +kernel
theorem dX0_addMatter_19 : decode cX0_addMatter 19 = .ok (.bastore, 1) := by decide +kernel
theorem dX0_addMatter_20 : decode cX0_addMatter 20 = .ok (.aload_n 0, 1) := by decide +kernel
theorem dX0_addMatter_21 : decode cX0_addMatter 21 = .ok (.dup, 1) := by decide +kernel
theorem dX0_addMatter_22 : decode cX0_addMatter 22 = .ok (.getfield 22, 3) := by decide +kernel
theorem dX0_addMatter_25 : decode cX0_addMatter 25 = .ok (.iconst 1, 1) := by decide +kernel
theorem dX0_addMatter_26 : decode cX0_addMatter 26 = .ok (.iadd, 1) := by decide +kernel
theorem dX0_addMatter_27 : decode cX0_addMatter 27 = .ok (.putfield 22, 3) := by decide +kernel
theorem dX0_addMatter_30 : decode cX0_addMatter 30 = .ok (.return_, 1) := by decide +kernel
set_option maxRecDepth 20000 in
theorem ggX0_hear_X2_isBidder : GoodIn wsX0_hear wsX2_isBidder := goodIn_r _ [6] (by decide +kernel) (by decide +kernel)
set_option maxRecDepth 20000 in
theorem gX0_hear_X2_isBidder_n39 : GoodIn wsX0_hear (wsX2_isBidder) := ggX0_hear_X2_isBidder
theorem dX0_hear_0 : decode cX0_hear 0 = .ok (.iload_n 1, 1) := by decide +kernel
theorem dX0_hear_1 : decode cX0_hear 1 = .ok (.invokestatic 39, 3) := by decide +kernel
theorem dX0_hear_4 : decode cX0_hear 4 = .ok (.ifCond .eq 25, 3) := by decide +kernel
theorem dX0_hear_7 : decode cX0_hear 7 = .ok (.iload_n 2, 1) := by decide +kernel
theorem dX0_hear_8 : decode cX0_hear 8 = .ok (.ifCond .lt 21, 3) := by decide +kernel
theorem dX0_hear_11 : decode cX0_hear 11 = .ok (.iload_n 2, 1) := by decide +kernel
theorem dX0_hear_12 : decode cX0_hear 12 = .ok (.aload_n 0, 1) := by decide +kernel
theorem dX0_hear_13 : decode cX0_hear 13 = .ok (.getfield 9, 3) := by decide +kernel
theorem dX0_hear_16 : decode cX0_hear 16 = .ok (.arraylength, 1) := by decide +kernel
theorem dX0_hear_17 : decode cX0_hear 17 = .ok (.if_icmp .ge 12, 3) := by decide +kernel
theorem dX0_hear_20 : decode cX0_hear 20 = .ok (.aload_n 0, 1) := by decide +kernel
theorem dX0_hear_21 : decode cX0_hear 21 = .ok (.getfield 9, 3) := by decide +kernel
theorem dX0_hear_24 : decode cX0_hear 24 = .ok (.iload_n 2, 1) := by decide +kernel
theorem dX0_hear_25 : decode cX0_hear 25 = .ok (.baload, 1) := by decide +kernel
theorem dX0_hear_26 : decode cX0_hear 26 = .ok (.ifCond .ne 5, 3) := by decide +kernel
theorem dX0_hear_29 : decode cX0_hear 29 = .ok (.iconst 0, 1) := by decide +kernel
theorem dX0_hear_30 : decode cX0_hear 30 = .ok (.ireturn, 1) := by decide +kernel
theorem dX0_hear_31 : decode cX0_hear 31 = .ok (.aload_n 0, 1) := by decide +kernel
theorem dX0_hear_32 : decode cX0_hear 32 = .ok (.getfield 9, 3) := by decide +kernel
theorem dX0_hear_35 : decode cX0_hear 35 = .ok (.iload_n 2, 1) := by decide +kernel
theorem dX0_hear_36 : decode cX0_hear 36 = .ok (.iconst 0, 1) := by decide +kernel
theorem dX0_hear_37 : decode cX0_hear 37 = .ok (.bastore, 1) := by decide +kernel
theorem dX0_hear_38 : decode cX0_hear 38 = .ok (.aload_n 0, 1) := by decide +kernel
theorem dX0_hear_39 : decode cX0_hear 39 = .ok (.getfield 15, 3) := by decide +kernel
theorem dX0_hear_42 : decode cX0_hear 42 = .ok (.iload_n 1, 1) := by decide +kernel
theorem dX0_hear_43 : decode cX0_hear 43 = .ok (.dup2, 1) := by decide +kernel
theorem dX0_hear_44 : decode cX0_hear 44 = .ok (.iaload, 1) := by decide +kernel
theorem dX0_hear_45 : decode cX0_hear 45 = .ok (.iconst 1, 1) := by decide +kernel
theorem dX0_hear_46 : decode cX0_hear 46 = .ok (.iadd, 1) := by decide +kernel
theorem dX0_hear_47 : decode cX0_hear 47 = .ok (.iastore, 1) := by decide +kernel
theorem dX0_hear_48 : decode cX0_hear 48 = .ok (.aload_n 0, 1) := by decide +kernel
theorem dX0_hear_49 : decode cX0_hear 49 = .ok (.getfield 26, 3) := by decide +kernel
theorem dX0_hear_52 : decode cX0_hear 52 = .ok (.iconst (-1), 1) := by decide +kernel
theorem dX0_hear_53 : decode cX0_hear 53 = .ok (.if_icmp .ne 8, 3) := by decide +kernel
theorem dX0_hear_56 : decode cX0_hear 56 = .ok (.aload_n 0, 1) := by decide +kernel
theorem dX0_hear_57 : decode cX0_hear 57 = .ok (.iload_n 1, 1) := by decide +kernel
theorem dX0_hear_58 : decode cX0_hear 58 = .ok (.putfield 26, 3) := by decide +kernel
theorem dX0_hear_61 : decode cX0_hear 61 = .ok (.iconst 1, 1) := by decide +kernel
theorem dX0_hear_62 : decode cX0_hear 62 = .ok (.ireturn, 1) := by decide +kernel
set_option maxRecDepth 20000 in
theorem ggX0_lenientFine_X2_isBidder : GoodIn wsX0_lenientFine wsX2_isBidder := goodIn_r _ [6] (by decide +kernel) (by decide +kernel)
set_option maxRecDepth 20000 in
theorem gX0_lenientFine_X2_isBidder_n39 : GoodIn wsX0_lenientFine (wsX2_isBidder) := ggX0_lenientFine_X2_isBidder
theorem dX0_lenientFine_0 : decode cX0_lenientFine 0 = .ok (.iload_n 1, 1) := by decide +kernel
theorem dX0_lenientFine_1 : decode cX0_lenientFine 1 = .ok (.invokestatic 39, 3) := by decide +kernel
theorem dX0_lenientFine_4 : decode cX0_lenientFine 4 = .ok (.ifCond .eq 12, 3) := by decide +kernel
theorem dX0_lenientFine_7 : decode cX0_lenientFine 7 = .ok (.aload_n 0, 1) := by decide +kernel
theorem dX0_lenientFine_8 : decode cX0_lenientFine 8 = .ok (.getfield 15, 3) := by decide +kernel
theorem dX0_lenientFine_11 : decode cX0_lenientFine 11 = .ok (.iload_n 1, 1) := by decide +kernel
theorem dX0_lenientFine_12 : decode cX0_lenientFine 12 = .ok (.iaload, 1) := by decide +kernel
theorem dX0_lenientFine_13 : decode cX0_lenientFine 13 = .ok (.goto 4, 3) := by decide +kernel
theorem dX0_lenientFine_16 : decode cX0_lenientFine 16 = .ok (.iconst 0, 1) := by decide +kernel
theorem dX0_lenientFine_17 : decode cX0_lenientFine 17 = .ok (.istore_n 3, 1) := by decide +kernel
theorem dX0_lenientFine_18 : decode cX0_lenientFine 18 = .ok (.iload_n 3, 1) := by decide +kernel
theorem dX0_lenientFine_19 : decode cX0_lenientFine 19 = .ok (.ifCond .ne 5, 3) := by decide +kernel
theorem dX0_lenientFine_22 : decode cX0_lenientFine 22 = .ok (.iload_n 2, 1) := by decide +kernel
theorem dX0_lenientFine_23 : decode cX0_lenientFine 23 = .ok (.ireturn, 1) := by decide +kernel
theorem dX0_lenientFine_24 : decode cX0_lenientFine 24 = .ok (.iload_n 1, 1) := by decide +kernel
theorem dX0_lenientFine_25 : decode cX0_lenientFine 25 = .ok (.aload_n 0, 1) := by decide +kernel
theorem dX0_lenientFine_26 : decode cX0_lenientFine 26 = .ok (.getfield 26, 3) := by decide +kernel
theorem dX0_lenientFine_29 : decode cX0_lenientFine 29 = .ok (.if_icmp .eq 9, 3) := by decide +kernel
theorem dX0_lenientFine_32 : decode cX0_lenientFine 32 = .ok (.iload_n 2, 1) := by decide +kernel
theorem dX0_lenientFine_33 : decode cX0_lenientFine 33 = .ok (.iload_n 2, 1) := by decide +kernel
theorem dX0_lenientFine_34 : decode cX0_lenientFine 34 = .ok (.iconst 4, 1) := by decide +kernel
theorem dX0_lenientFine_35 : decode cX0_lenientFine 35 = .ok (.idiv, 1) := by decide +kernel
theorem dX0_lenientFine_36 : decode cX0_lenientFine 36 = .ok (.isub, 1) := by decide +kernel
theorem dX0_lenientFine_37 : decode cX0_lenientFine 37 = .ok (.ireturn, 1) := by decide +kernel
theorem dX0_lenientFine_38 : decode cX0_lenientFine 38 = .ok (.iconst 2, 1) := by decide +kernel
theorem dX0_lenientFine_39 : decode cX0_lenientFine 39 = .ok (.iload_n 3, 1) := by decide +kernel
theorem dX0_lenientFine_40 : decode cX0_lenientFine 40 = .ok (.imul, 1) := by decide +kernel
theorem dX0_lenientFine_41 : decode cX0_lenientFine 41 = .ok (.aload_n 0, 1) := by decide +kernel
theorem dX0_lenientFine_42 : decode cX0_lenientFine 42 = .ok (.getfield 22, 3) := by decide +kernel
theorem dX0_lenientFine_45 : decode cX0_lenientFine 45 = .ok (.if_icmp .lt 7, 3) := by decide +kernel
theorem dX0_lenientFine_48 : decode cX0_lenientFine 48 = .ok (.iconst 0, 1) := by decide +kernel
theorem dX0_lenientFine_49 : decode cX0_lenientFine 49 = .ok (.goto 6, 3) := by decide +kernel
theorem dX0_lenientFine_52 : decode cX0_lenientFine 52 = .ok (.iload_n 2, 1) := by decide +kernel
theorem dX0_lenientFine_53 : decode cX0_lenientFine 53 = .ok (.iconst 2, 1) := by decide +kernel
theorem dX0_lenientFine_54 : decode cX0_lenientFine 54 = .ok (.idiv, 1) := by decide +kernel
theorem dX0_lenientFine_55 : decode cX0_lenientFine 55 = .ok (.ireturn, 1) := by decide +kernel
theorem dX1_init_0 : decode cX1_init 0 = .ok (.aload_n 0, 1) := by decide +kernel
theorem dX1_init_1 : decode cX1_init 1 = .ok (.invokespecial 3, 3) := by decide +kernel
theorem dX1_init_4 : decode cX1_init 4 = .ok (.aload_n 0, 1) := by decide +kernel
theorem dX1_init_5 : decode cX1_init 5 = .ok (.bipush 7, 2) := by decide +kernel
theorem dX1_init_7 : decode cX1_init 7 = .ok (.newarray .int, 2) := by decide +kernel
theorem dX1_init_9 : decode cX1_init 9 = .ok (.putfield 9, 3) := by decide +kernel
theorem dX1_init_12 : decode cX1_init 12 = .ok (.aload_n 0, 1) := by decide +kernel
theorem dX1_init_13 : decode cX1_init 13 = .ok (.bipush 7, 2) := by decide +kernel
theorem dX1_init_15 : decode cX1_init 15 = .ok (.newarray .boolean, 2) := by decide +kernel
theorem dX1_init_17 : decode cX1_init 17 = .ok (.putfield 15, 3) := by decide +kernel
theorem dX1_init_20 : decode cX1_init 20 = .ok (.aload_n 0, 1) := by decide +kernel
theorem dX1_init_21 : decode cX1_init 21 = .ok (.iconst 0, 1) := by decide +kernel
theorem dX1_init_22 : decode cX1_init 22 = .ok (.putfield 19, 3) := by decide +kernel
theorem dX1_init_25 : decode cX1_init 25 = .ok (.aload_n 0, 1) := by decide +kernel
theorem dX1_init_26 : decode cX1_init 26 = .ok (.iconst (-1), 1) := by decide +kernel
theorem dX1_init_27 : decode cX1_init 27 = .ok (.putfield 23, 3) := by decide +kernel
theorem dX1_init_30 : decode cX1_init 30 = .ok (.aload_n 0, 1) := by decide +kernel
theorem dX1_init_31 : decode cX1_init 31 = .ok (.iconst (-1), 1) := by decide +kernel
theorem dX1_init_32 : decode cX1_init 32 = .ok (.putfield 27, 3) := by decide +kernel
theorem dX1_init_35 : decode cX1_init 35 = .ok (.aload_n 0, 1) := by decide +kernel
theorem dX1_init_36 : decode cX1_init 36 = .ok (.iconst 0, 1) := by decide +kernel
theorem dX1_init_37 : decode cX1_init 37 = .ok (.putfield 30, 3) := by decide +kernel
theorem dX1_init_40 : decode cX1_init 40 = .ok (.return_, 1) := by decide +kernel
theorem dX1_isOpen_0 : decode cX1_isOpen 0 = .ok (.aload_n 0, 1) := by decide +kernel
theorem dX1_isOpen_1 : decode cX1_isOpen 1 = .ok (.getfield 19, 3) := by decide +kernel
theorem dX1_isOpen_4 : decode cX1_isOpen 4 = .ok (.ifCond .ne 7, 3) := by decide +kernel
theorem dX1_isOpen_7 : decode cX1_isOpen 7 = .ok (.iconst 1, 1) := by decide +kernel
theorem dX1_isOpen_8 : decode cX1_isOpen 8 = .ok (.goto 4, 3) := by decide +kernel
theorem dX1_isOpen_11 : decode cX1_isOpen 11 = .ok (.iconst 0, 1) := by decide +kernel
theorem dX1_isOpen_12 : decode cX1_isOpen 12 = .ok (.ireturn, 1) := by decide +kernel
theorem dX1_isAwarded_0 : decode cX1_isAwarded 0 = .ok (.aload_n 0, 1) := by decide +kernel
theorem dX1_isAwarded_1 : decode cX1_isAwarded 1 = .ok (.getfield 23, 3) := by decide +kernel
theorem dX1_isAwarded_4 : decode cX1_isAwarded 4 = .ok (.iconst (-1), 1) := by decide +kernel
theorem dX1_isAwarded_5 : decode cX1_isAwarded 5 = .ok (.if_icmp .eq 7, 3) := by decide +kernel
theorem dX1_isAwarded_8 : decode cX1_isAwarded 8 = .ok (.iconst 1, 1) := by decide +kernel
theorem dX1_isAwarded_9 : decode cX1_isAwarded 9 = .ok (.goto 4, 3) := by decide +kernel
theorem dX1_isAwarded_12 : decode cX1_isAwarded 12 = .ok (.iconst 0, 1) := by decide +kernel
theorem dX1_isAwarded_13 : decode cX1_isAwarded 13 = .ok (.ireturn, 1) := by decide +kernel
theorem dX1_isPassedOn_0 : decode cX1_isPassedOn 0 = .ok (.aload_n 0, 1) := by decide +kernel
theorem dX1_isPassedOn_1 : decode cX1_isPassedOn 1 = .ok (.getfield 27, 3) := by decide +kernel
theorem dX1_isPassedOn_4 : decode cX1_isPassedOn 4 = .ok (.iconst (-1), 1) := by decide +kernel
theorem dX1_isPassedOn_5 : decode cX1_isPassedOn 5 = .ok (.if_icmp .eq 7, 3) := by decide +kernel
theorem dX1_isPassedOn_8 : decode cX1_isPassedOn 8 = .ok (.iconst 1, 1) := by decide +kernel
theorem dX1_isPassedOn_9 : decode cX1_isPassedOn 9 = .ok (.goto 4, 3) := by decide +kernel
theorem dX1_isPassedOn_12 : decode cX1_isPassedOn 12 = .ok (.iconst 0, 1) := by decide +kernel
theorem dX1_isPassedOn_13 : decode cX1_isPassedOn 13 = .ok (.ireturn, 1) := by decide +kernel
theorem dX1_winner_0 : decode cX1_winner 0 = .ok (.aload_n 0, 1) := by decide +kernel
theorem dX1_winner_1 : decode cX1_winner 1 = .ok (.getfield 23, 3) := by decide +kernel
theorem dX1_winner_4 : decode cX1_winner 4 = .ok (.ireturn, 1) := by decide +kernel
set_option maxRecDepth 20000 in
theorem ggX1_sumOf_X2_isBidder : GoodIn wsX1_sumOf wsX2_isBidder := goodIn_r _ [4] (by decide +kernel) (by decide +kernel)
set_option maxRecDepth 20000 in
theorem gX1_sumOf_X2_isBidder_n33 : GoodIn wsX1_sumOf (wsX2_isBidder) := ggX1_sumOf_X2_isBidder
theorem dX1_sumOf_0 : decode cX1_sumOf 0 = .ok (.iload_n 1, 1) := by decide +kernel
theorem dX1_sumOf_1 : decode cX1_sumOf 1 = .ok (.invokestatic 33, 3) := by decide +kernel
theorem dX1_sumOf_4 : decode cX1_sumOf 4 = .ok (.ifCond .eq 12, 3) := by decide +kernel
theorem dX1_sumOf_7 : decode cX1_sumOf 7 = .ok (.aload_n 0, 1) := by decide +kernel
theorem dX1_sumOf_8 : decode cX1_sumOf 8 = .ok (.getfield 9, 3) := by decide +kernel
theorem dX1_sumOf_11 : decode cX1_sumOf 11 = .ok (.iload_n 1, 1) := by decide +kernel
theorem dX1_sumOf_12 : decode cX1_sumOf 12 = .ok (.iaload, 1) := by decide +kernel
theorem dX1_sumOf_13 : decode cX1_sumOf 13 = .ok (.goto 4, 3) := by decide +kernel
theorem dX1_sumOf_16 : decode cX1_sumOf 16 = .ok (.iconst 0, 1) := by decide +kernel
theorem dX1_sumOf_17 : decode cX1_sumOf 17 = .ok (.ireturn, 1) := by decide +kernel
set_option maxRecDepth 20000 in
theorem ggX1_hasBidOf_X2_isBidder : GoodIn wsX1_hasBidOf wsX2_isBidder := goodIn_r _ [4] (by decide +kernel) (by decide +kernel)
set_option maxRecDepth 20000 in
theorem gX1_hasBidOf_X2_isBidder_n33 : GoodIn wsX1_hasBidOf (wsX2_isBidder) := ggX1_hasBidOf_X2_isBidder
theorem dX1_hasBidOf_0 : decode cX1_hasBidOf 0 = .ok (.iload_n 1, 1) := by decide +kernel
theorem dX1_hasBidOf_1 : decode cX1_hasBidOf 1 = .ok (.invokestatic 33, 3) := by decide +kernel
theorem dX1_hasBidOf_4 : decode cX1_hasBidOf 4 = .ok (.ifCond .eq 16, 3) := by decide +kernel
theorem dX1_hasBidOf_7 : decode cX1_hasBidOf 7 = .ok (.aload_n 0, 1) := by decide +kernel
theorem dX1_hasBidOf_8 : decode cX1_hasBidOf 8 = .ok (.getfield 9, 3) := by decide +kernel
theorem dX1_hasBidOf_11 : decode cX1_hasBidOf 11 = .ok (.iload_n 1, 1) := by decide +kernel
theorem dX1_hasBidOf_12 : decode cX1_hasBidOf 12 = .ok (.iaload, 1) := by decide +kernel
theorem dX1_hasBidOf_13 : decode cX1_hasBidOf 13 = .ok (.ifCond .le 7, 3) := by decide +kernel
theorem dX1_hasBidOf_16 : decode cX1_hasBidOf 16 = .ok (.iconst 1, 1) := by decide +kernel
theorem dX1_hasBidOf_17 : decode cX1_hasBidOf 17 = .ok (.goto 4, 3) := by decide +kernel
theorem dX1_hasBidOf_20 : decode cX1_hasBidOf 20 = .ok (.iconst 0, 1) := by decide +kernel
theorem dX1_hasBidOf_21 : decode cX1_hasBidOf 21 = .ok (.ireturn, 1) := by decide +kernel
set_option maxRecDepth 20000 in
theorem ggX1_hasWithdrawn_X2_isBidder : GoodIn wsX1_hasWithdrawn wsX2_isBidder := goodIn_r _ [4] (by decide +kernel) (by decide +kernel)
set_option maxRecDepth 20000 in
theorem gX1_hasWithdrawn_X2_isBidder_n33 : GoodIn wsX1_hasWithdrawn (wsX2_isBidder) := ggX1_hasWithdrawn_X2_isBidder
theorem dX1_hasWithdrawn_0 : decode cX1_hasWithdrawn 0 = .ok (.iload_n 1, 1) := by decide +kernel
theorem dX1_hasWithdrawn_1 : decode cX1_hasWithdrawn 1 = .ok (.invokestatic 33, 3) := by decide +kernel
theorem dX1_hasWithdrawn_4 : decode cX1_hasWithdrawn 4 = .ok (.ifCond .eq 16, 3) := by decide +kernel
theorem dX1_hasWithdrawn_7 : decode cX1_hasWithdrawn 7 = .ok (.aload_n 0, 1) := by decide +kernel
theorem dX1_hasWithdrawn_8 : decode cX1_hasWithdrawn 8 = .ok (.getfield 15, 3) := by decide +kernel
theorem dX1_hasWithdrawn_11 : decode cX1_hasWithdrawn 11 = .ok (.iload_n 1, 1) := by decide +kernel
theorem dX1_hasWithdrawn_12 : decode cX1_hasWithdrawn 12 = .ok (.baload, 1) := by decide +kernel
theorem dX1_hasWithdrawn_13 : decode cX1_hasWithdrawn 13 = .ok (.ifCond .eq 7, 3) := by decide +kernel
theorem dX1_hasWithdrawn_16 : decode cX1_hasWithdrawn 16 = .ok (.iconst 1, 1) := by decide +kernel
theorem dX1_hasWithdrawn_17 : decode cX1_hasWithdrawn 17 = .ok (.goto 4, 3) := by decide +kernel
theorem dX1_hasWithdrawn_20 : decode cX1_hasWithdrawn 20 = .ok (.iconst 0, 1) := by decide +kernel
theorem dX1_hasWithdrawn_21 : decode cX1_hasWithdrawn 21 = .ok (.ireturn, 1) := by decide +kernel
set_option maxRecDepth 20000 in
theorem ggX1_isStanding_X2_isBidder : GoodIn wsX1_isStanding wsX2_isBidder := goodIn_r _ [5] (by decide +kernel) (by decide +kernel)
set_option maxRecDepth 20000 in
theorem gX1_isStanding_X2_isBidder_n33 : GoodIn wsX1_isStanding (wsX2_isBidder) := ggX1_isStanding_X2_isBidder
theorem dX1_isStanding_0 : decode cX1_isStanding 0 = .ok (.iload_n 1, 1) := by decide +kernel
theorem dX1_isStanding_1 : decode cX1_isStanding 1 = .ok (.invokestatic 33, 3) := by decide +kernel
theorem dX1_isStanding_4 : decode cX1_isStanding 4 = .ok (.ifCond .eq 25, 3) := by decide +kernel
theorem dX1_isStanding_7 : decode cX1_isStanding 7 = .ok (.aload_n 0, 1) := by decide +kernel
theorem dX1_isStanding_8 : decode cX1_isStanding 8 = .ok (.getfield 9, 3) := by decide +kernel
theorem dX1_isStanding_11 : decode cX1_isStanding 11 = .ok (.iload_n 1, 1) := by decide +kernel
theorem dX1_isStanding_12 : decode cX1_isStanding 12 = .ok (.iaload, 1) := by decide +kernel
theorem dX1_isStanding_13 : decode cX1_isStanding 13 = .ok (.ifCond .le 16, 3) := by decide +kernel
theorem dX1_isStanding_16 : decode cX1_isStanding 16 = .ok (.aload_n 0, 1) := by decide +kernel
theorem dX1_isStanding_17 : decode cX1_isStanding 17 = .ok (.getfield 15, 3) := by decide +kernel
theorem dX1_isStanding_20 : decode cX1_isStanding 20 = .ok (.iload_n 1, 1) := by decide +kernel
theorem dX1_isStanding_21 : decode cX1_isStanding 21 = .ok (.baload, 1) := by decide +kernel
theorem dX1_isStanding_22 : decode cX1_isStanding 22 = .ok (.ifCond .ne 7, 3) := by decide +kernel
theorem dX1_isStanding_25 : decode cX1_isStanding 25 = .ok (.iconst 1, 1) := by decide +kernel
theorem dX1_isStanding_26 : decode cX1_isStanding 26 = .ok (.goto 4, 3) := by decide +kernel
theorem dX1_isStanding_29 : decode cX1_isStanding 29 = .ok (.iconst 0, 1) := by decide +kernel
theorem dX1_isStanding_30 : decode cX1_isStanding 30 = .ok (.ireturn, 1) := by decide +kernel
set_option maxRecDepth 20000 in
theorem ggX1_countStanding_X1_isStanding : GoodIn wsX1_countStanding wsX1_isStanding := goodIn_r _ [5, 6, 7, 8, 9, 10, 11, 12, 13, 14, 15, 16] (by decide +kernel) (by decide +kernel)
set_option maxRecDepth 20000 in
theorem gX1_countStanding_X1_isStanding : GoodIn wsX1_countStanding (wsV RX1 37 RX1 yX1_isStanding wsX1_isStanding) := goodIn_app (goodIn_of _ (by decide +kernel)) ggX1_countStanding_X1_isStanding
theorem dX1_countStanding_0 : decode cX1_countStanding 0 = .ok (.iconst 0, 1) := by decide +kernel
theorem dX1_countStanding_1 : decode cX1_countStanding 1 = .ok (.istore_n 1, 1) := by decide +kernel
theorem dX1_countStanding_2 : decode cX1_countStanding 2 = .ok (.iconst 0, 1) := by decide +kernel
theorem dX1_countStanding_3 : decode cX1_countStanding 3 = .ok (.istore_n 2, 1) := by decide +kernel
theorem dX1_countStanding_4 : decode cX1_countStanding 4 = .ok (.iload_n 2, 1) := by decide +kernel
theorem dX1_countStanding_5 : decode cX1_countStanding 5 = .ok (.bipush 7, 2) := by decide +kernel
theorem dX1_countStanding_7 : decode cX1_countStanding 7 = .ok (.if_icmp .ge 20, 3) := by decide +kernel
theorem dX1_countStanding_10 : decode cX1_countStanding 10 = .ok (.aload_n 0, 1) := by decide +kernel
theorem dX1_countStanding_11 : decode cX1_countStanding 11 = .ok (.iload_n 2, 1) := by decide +kernel
theorem dX1_countStanding_12 : decode cX1_countStanding 12 = .ok (.invokevirtual 37, 3) := by decide +kernel
theorem dX1_countStanding_15 : decode cX1_countStanding 15 = .ok (.ifCond .eq 6, 3) := by decide +kernel
theorem dX1_countStanding_18 : decode cX1_countStanding 18 = .ok (.iinc 1 1, 3) := by decide +kernel
theorem dX1_countStanding_21 : decode cX1_countStanding 21 = .ok (.iinc 2 1, 3) := by decide +kernel
theorem dX1_countStanding_24 : decode cX1_countStanding 24 = .ok (.goto (-20), 3) := by decide +kernel
theorem dX1_countStanding_27 : decode cX1_countStanding 27 = .ok (.iload_n 1, 1) := by decide +kernel
theorem dX1_countStanding_28 : decode cX1_countStanding 28 = .ok (.ireturn, 1) := by decide +kernel
set_option maxRecDepth 20000 in
theorem ggX1_takeBid_X2_isBidder : GoodIn wsX1_takeBid wsX2_isBidder := goodIn_r _ [4] (by decide +kernel) (by decide +kernel)
set_option maxRecDepth 20000 in
theorem gX1_takeBid_X2_isBidder_n33 : GoodIn wsX1_takeBid (wsX2_isBidder) := ggX1_takeBid_X2_isBidder
theorem dX1_takeBid_0 : decode cX1_takeBid 0 = .ok (.iload_n 1, 1) := by decide +kernel
theorem dX1_takeBid_1 : decode cX1_takeBid 1 = .ok (.invokestatic 33, 3) := by decide +kernel
theorem dX1_takeBid_4 : decode cX1_takeBid 4 = .ok (.ifCond .eq 10, 3) := by decide +kernel
theorem dX1_takeBid_7 : decode cX1_takeBid 7 = .ok (.aload_n 0, 1) := by decide +kernel
theorem dX1_takeBid_8 : decode cX1_takeBid 8 = .ok (.getfield 9, 3) := by decide +kernel
theorem dX1_takeBid_11 : decode cX1_takeBid 11 = .ok (.iload_n 1, 1) := by decide +kernel
theorem dX1_takeBid_12 : decode cX1_takeBid 12 = .ok (.iload_n 2, 1) := by decide +kernel
theorem dX1_takeBid_13 : decode cX1_takeBid 13 = .ok (.iastore, 1) := by decide +kernel
theorem dX1_takeBid_14 : decode cX1_takeBid 14 = .ok (.return_, 1) := by decide +kernel
set_option maxRecDepth 20000 in
theorem ggX1_giveBack_X2_isBidder : GoodIn wsX1_giveBack wsX2_isBidder := goodIn_r _ [4] (by decide +kernel) (by decide +kernel)
set_option maxRecDepth 20000 in
theorem gX1_giveBack_X2_isBidder_n33 : GoodIn wsX1_giveBack (wsX2_isBidder) := ggX1_giveBack_X2_isBidder
theorem dX1_giveBack_0 : decode cX1_giveBack 0 = .ok (.iload_n 1, 1) := by decide +kernel
theorem dX1_giveBack_1 : decode cX1_giveBack 1 = .ok (.invokestatic 33, 3) := by decide +kernel
theorem dX1_giveBack_4 : decode cX1_giveBack 4 = .ok (.ifCond .eq 10, 3) := by decide +kernel
theorem dX1_giveBack_7 : decode cX1_giveBack 7 = .ok (.aload_n 0, 1) := by decide +kernel
theorem dX1_giveBack_8 : decode cX1_giveBack 8 = .ok (.getfield 15, 3) := by decide +kernel
theorem dX1_giveBack_11 : decode cX1_giveBack 11 = .ok (.iload_n 1, 1) := by decide +kernel
theorem dX1_giveBack_12 : decode cX1_giveBack 12 = .ok (.iconst 1, 1) := by decide +kernel
theorem dX1_giveBack_13 : decode cX1_giveBack 13 = .ok (.bastore, 1) := by decide +kernel
theorem dX1_giveBack_14 : decode cX1_giveBack 14 = .ok (.return_, 1) := by decide +kernel
set_option maxRecDepth 20000 in
theorem ggX1_decide_X1_isStanding : GoodIn wsX1_decide wsX1_isStanding := goodIn_r _ [7, 8, 9, 10, 11, 12, 17, 18, 19, 20, 21, 22] (by decide +kernel) (by decide +kernel)
set_option maxRecDepth 20000 in
theorem gX1_decide_X1_isStanding : GoodIn wsX1_decide (wsV RX1 37 RX1 yX1_isStanding wsX1_isStanding) := goodIn_app (goodIn_of _ (by decide +kernel)) ggX1_decide_X1_isStanding
set_option maxRecDepth 20000 in
theorem ggX1_decide_X1_sumOf : GoodIn wsX1_decide wsX1_sumOf := goodIn_r _ [16, 8, 10, 11, 12, 17, 18, 19, 20, 21, 22] (by decide +kernel) (by decide +kernel)
set_option maxRecDepth 20000 in
theorem gX1_decide_X1_sumOf : GoodIn wsX1_decide (wsV RX1 40 RX1 yX1_sumOf wsX1_sumOf) := goodIn_app (goodIn_of _ (by decide +kernel)) ggX1_decide_X1_sumOf
theorem dX1_decide_0 : decode cX1_decide 0 = .ok (.iconst (-1), 1) := by decide +kernel
theorem dX1_decide_1 : decode cX1_decide 1 = .ok (.istore_n 1, 1) := by decide +kernel
theorem dX1_decide_2 : decode cX1_decide 2 = .ok (.iconst 0, 1) := by decide +kernel
theorem dX1_decide_3 : decode cX1_decide 3 = .ok (.istore_n 2, 1) := by decide +kernel
theorem dX1_decide_4 : decode cX1_decide 4 = .ok (.iload_n 2, 1) := by decide +kernel
theorem dX1_decide_5 : decode cX1_decide 5 = .ok (.bipush 7, 2) := by decide +kernel
theorem dX1_decide_7 : decode cX1_decide 7 = .ok (.if_icmp .ge 37, 3) := by decide +kernel
theorem dX1_decide_10 : decode cX1_decide 10 = .ok (.aload_n 0, 1) := by decide +kernel
theorem dX1_decide_11 : decode cX1_decide 11 = .ok (.iload_n 2, 1) := by decide +kernel
theorem dX1_decide_12 : decode cX1_decide 12 = .ok (.invokevirtual 37, 3) := by decide +kernel
theorem dX1_decide_15 : decode cX1_decide 15 = .ok (.ifCond .eq 23, 3) := by decide +kernel
theorem dX1_decide_18 : decode cX1_decide 18 = .ok (.iload_n 1, 1) := by decide +kernel
theorem dX1_decide_19 : decode cX1_decide 19 = .ok (.iconst (-1), 1) := by decide +kernel
theorem dX1_decide_20 : decode cX1_decide 20 = .ok (.if_icmp .eq 16, 3) := by decide +kernel
theorem dX1_decide_23 : decode cX1_decide 23 = .ok (.aload_n 0, 1) := by decide +kernel
theorem dX1_decide_24 : decode cX1_decide 24 = .ok (.iload_n 2, 1) := by decide +kernel
theorem dX1_decide_25 : decode cX1_decide 25 = .ok (.invokevirtual 40, 3) := by decide +kernel
theorem dX1_decide_28 : decode cX1_decide 28 = .ok (.aload_n 0, 1) := by decide +kernel
theorem dX1_decide_29 : decode cX1_decide 29 = .ok (.iload_n 1, 1) := by decide +kernel
theorem dX1_decide_30 : decode cX1_decide 30 = .ok (.invokevirtual 40, 3) := by decide +kernel
theorem dX1_decide_33 : decode cX1_decide 33 = .ok (.if_icmp .ge 5, 3) := by decide +kernel
theorem dX1_decide_36 : decode cX1_decide 36 = .ok (.iload_n 2, 1) := by decide +kernel
theorem dX1_decide_37 : decode cX1_decide 37 = .ok (.istore_n 1, 1) := by decide +kernel
theorem dX1_decide_38 : decode cX1_decide 38 = .ok (.iinc 2 1, 3) := by decide +kernel
theorem dX1_decide_41 : decode cX1_decide 41 = .ok (.goto (-37), 3) := by decide +kernel
theorem dX1_decide_44 : decode cX1_decide 44 = .ok (.aload_n 0, 1) := by decide +kernel
theorem dX1_decide_45 : decode cX1_decide 45 = .ok (.iload_n 1, 1) := by decide +kernel
theorem dX1_decide_46 : decode cX1_decide 46 = .ok (.putfield 23, 3) := by decide +kernel
theorem dX1_decide_49 : decode cX1_decide 49 = .ok (.aload_n 0, 1) := by decide +kernel
theorem dX1_decide_50 : decode cX1_decide 50 = .ok (.iconst 1, 1) := by decide +kernel
theorem dX1_decide_51 : decode cX1_decide 51 = .ok (.putfield 19, 3) := by decide +kernel
theorem dX1_decide_54 : decode cX1_decide 54 = .ok (.return_, 1) := by decide +kernel
theorem dX1_giveOver_0 : decode cX1_giveOver 0 = .ok (.aload_n 0, 1) := by decide +kernel
theorem dX1_giveOver_1 : decode cX1_giveOver 1 = .ok (.iload_n 1, 1) := by decide +kernel
theorem dX1_giveOver_2 : decode cX1_giveOver 2 = .ok (.putfield 27, 3) := by decide +kernel
theorem dX1_giveOver_5 : decode cX1_giveOver 5 = .ok (.aload_n 0, 1) := by decide +kernel
theorem dX1_giveOver_6 : decode cX1_giveOver 6 = .ok (.iload_n 2, 1) := by decide +kernel
theorem dX1_giveOver_7 : decode cX1_giveOver 7 = .ok (.putfield 30, 3) := by decide +kernel
theorem dX1_giveOver_10 : decode cX1_giveOver 10 = .ok (.return_, 1) := by decide +kernel
set_option maxRecDepth 20000 in
theorem ggX1_incomeOf_X1_sumOf : GoodIn wsX1_incomeOf wsX1_sumOf := goodIn_r _ [8, 9, 10, 11, 12, 13, 14, 15, 16, 17, 18] (by decide +kernel) (by decide +kernel)
set_option maxRecDepth 20000 in
theorem gX1_incomeOf_X1_sumOf : GoodIn wsX1_incomeOf (wsV RX1 40 RX1 yX1_sumOf wsX1_sumOf) := goodIn_app (goodIn_of _ (by decide +kernel)) ggX1_incomeOf_X1_sumOf
theorem dX1_incomeOf_0 : decode cX1_incomeOf 0 = .ok (.iload_n 1, 1) := by decide +kernel
theorem dX1_incomeOf_1 : decode cX1_incomeOf 1 = .ok (.aload_n 0, 1) := by decide +kernel
theorem dX1_incomeOf_2 : decode cX1_incomeOf 2 = .ok (.getfield 23, 3) := by decide +kernel
theorem dX1_incomeOf_5 : decode cX1_incomeOf 5 = .ok (.if_icmp .ne 14, 3) := by decide +kernel
theorem dX1_incomeOf_8 : decode cX1_incomeOf 8 = .ok (.aload_n 0, 1) := by decide +kernel
theorem dX1_incomeOf_9 : decode cX1_incomeOf 9 = .ok (.iload_n 1, 1) := by decide +kernel
theorem dX1_incomeOf_10 : decode cX1_incomeOf 10 = .ok (.invokevirtual 40, 3) := by decide +kernel
theorem dX1_incomeOf_13 : decode cX1_incomeOf 13 = .ok (.aload_n 0, 1) := by decide +kernel
theorem dX1_incomeOf_14 : decode cX1_incomeOf 14 = .ok (.getfield 30, 3) := by decide +kernel
theorem dX1_incomeOf_17 : decode cX1_incomeOf 17 = .ok (.isub, 1) := by decide +kernel
theorem dX1_incomeOf_18 : decode cX1_incomeOf 18 = .ok (.ireturn, 1) := by decide +kernel
theorem dX1_incomeOf_19 : decode cX1_incomeOf 19 = .ok (.iload_n 1, 1) := by decide +kernel
theorem dX1_incomeOf_20 : decode cX1_incomeOf 20 = .ok (.aload_n 0, 1) := by decide +kernel
theorem dX1_incomeOf_21 : decode cX1_incomeOf 21 = .ok (.getfield 27, 3) := by decide +kernel
theorem dX1_incomeOf_24 : decode cX1_incomeOf 24 = .ok (.if_icmp .ne 10, 3) := by decide +kernel
theorem dX1_incomeOf_27 : decode cX1_incomeOf 27 = .ok (.aload_n 0, 1) := by decide +kernel
theorem dX1_incomeOf_28 : decode cX1_incomeOf 28 = .ok (.getfield 30, 3) := by decide +kernel
theorem dX1_incomeOf_31 : decode cX1_incomeOf 31 = .ok (.goto 4, 3) := by decide +kernel
theorem dX1_incomeOf_34 : decode cX1_incomeOf 34 = .ok (.iconst 0, 1) := by decide +kernel
theorem dX1_incomeOf_35 : decode cX1_incomeOf 35 = .ok (.ireturn, 1) := by decide +kernel
set_option maxRecDepth 20000 in
theorem ggX1_signsOfLoser_X1_isStanding : GoodIn wsX1_signsOfLoser wsX1_isStanding := goodIn_r _ [6, 7, 8, 9, 10, 11, 29, 30, 31, 32, 33, 34] (by decide +kernel) (by decide +kernel)
set_option maxRecDepth 20000 in
theorem gX1_signsOfLoser_X1_isStanding : GoodIn wsX1_signsOfLoser (wsV RX1 37 RX1 yX1_isStanding wsX1_isStanding) := goodIn_app (goodIn_of _ (by decide +kernel)) ggX1_signsOfLoser_X1_isStanding
set_option maxRecDepth 20000 in
theorem ggX1_signsOfLoser_X1_sumOf : GoodIn wsX1_signsOfLoser wsX1_sumOf := goodIn_r _ [15, 7, 9, 10, 11, 29, 30, 31, 32, 33, 34] (by decide +kernel) (by decide +kernel)
set_option maxRecDepth 20000 in
theorem gX1_signsOfLoser_X1_sumOf : GoodIn wsX1_signsOfLoser (wsV RX1 40 RX1 yX1_sumOf wsX1_sumOf) := goodIn_app (goodIn_of _ (by decide +kernel)) ggX1_signsOfLoser_X1_sumOf
set_option maxRecDepth 20000 in
theorem ggX1_signsOfLoser_X1_isNear : GoodIn wsX1_signsOfLoser wsX1_isNear := goodIn_r _ [19, 20, 12, 13, 14, 5, 15, 7, 9, 10, 11, 29, 30, 31, 32, 33, 34] (by decide +kernel) (by decide +kernel)
set_option maxRecDepth 20000 in
theorem gX1_signsOfLoser_X1_isNear : GoodIn wsX1_signsOfLoser (wsV RX1 44 RX1 yX1_isNear wsX1_isNear) := goodIn_app (goodIn_of _ (by decide +kernel)) ggX1_signsOfLoser_X1_isNear
set_option maxRecDepth 20000 in
theorem ggX1_signsOfLoser_X1_hasBidOf : GoodIn wsX1_signsOfLoser wsX1_hasBidOf := goodIn_r _ [24, 7, 9, 10, 11, 29, 30, 31, 32, 33, 34] (by decide +kernel) (by decide +kernel)
set_option maxRecDepth 20000 in
theorem gX1_signsOfLoser_X1_hasBidOf : GoodIn wsX1_signsOfLoser (wsV RX1 47 RX1 yX1_hasBidOf wsX1_hasBidOf) := goodIn_app (goodIn_of _ (by decide +kernel)) ggX1_signsOfLoser_X1_hasBidOf
set_option maxRecDepth 20000 in
theorem ggX1_signsOfLoser_X1_hasWithdrawn : GoodIn wsX1_signsOfLoser wsX1_hasWithdrawn := goodIn_r _ [28, 8, 9, 10, 11, 29, 30, 31, 32, 33, 34] (by decide +kernel) (by decide +kernel)
set_option maxRecDepth 20000 in
theorem gX1_signsOfLoser_X1_hasWithdrawn : GoodIn wsX1_signsOfLoser (wsV RX1 50 RX1 yX1_hasWithdrawn wsX1_hasWithdrawn) := goodIn_app (goodIn_of _ (by decide +kernel)) ggX1_signsOfLoser_X1_hasWithdrawn
theorem dX1_signsOfLoser_0 : decode cX1_signsOfLoser 0 = .ok (.iconst 0, 1) := by decide +kernel
theorem dX1_signsOfLoser_1 : decode cX1_signsOfLoser 1 = .ok (.istore_n 2, 1) := by decide +kernel
theorem dX1_signsOfLoser_2 : decode cX1_signsOfLoser 2 = .ok (.aload_n 0, 1) := by decide +kernel
theorem dX1_signsOfLoser_3 : decode cX1_signsOfLoser 3 = .ok (.iload_n 1, 1) := by decide +kernel
theorem dX1_signsOfLoser_4 : decode cX1_signsOfLoser 4 = .ok (.invokevirtual 37, 3) := by decide +kernel
theorem dX1_signsOfLoser_7 : decode cX1_signsOfLoser 7 = .ok (.ifCond .eq 18, 3) := by decide +kernel
theorem dX1_signsOfLoser_10 : decode cX1_signsOfLoser 10 = .ok (.aload_n 0, 1) := by decide +kernel
theorem dX1_signsOfLoser_11 : decode cX1_signsOfLoser 11 = .ok (.aload_n 0, 1) := by decide +kernel
theorem dX1_signsOfLoser_12 : decode cX1_signsOfLoser 12 = .ok (.iload_n 1, 1) := by decide +kernel
theorem dX1_signsOfLoser_13 : decode cX1_signsOfLoser 13 = .ok (.invokevirtual 40, 3) := by decide +kernel
theorem dX1_signsOfLoser_16 : decode cX1_signsOfLoser 16 = .ok (.invokevirtual 44, 3) := by decide +kernel
theorem dX1_signsOfLoser_19 : decode cX1_signsOfLoser 19 = .ok (.ifCond .eq 6, 3) := by decide +kernel
theorem dX1_signsOfLoser_22 : decode cX1_signsOfLoser 22 = .ok (.iinc 2 2, 3) := by decide +kernel
theorem dX1_signsOfLoser_25 : decode cX1_signsOfLoser 25 = .ok (.aload_n 0, 1) := by decide +kernel
theorem dX1_signsOfLoser_26 : decode cX1_signsOfLoser 26 = .ok (.getfield 27, 3) := by decide +kernel
theorem dX1_signsOfLoser_29 : decode cX1_signsOfLoser 29 = .ok (.iload_n 1, 1) := by decide +kernel
theorem dX1_signsOfLoser_30 : decode cX1_signsOfLoser 30 = .ok (.if_icmp .ne 14, 3) := by decide +kernel
theorem dX1_signsOfLoser_33 : decode cX1_signsOfLoser 33 = .ok (.aload_n 0, 1) := by decide +kernel
theorem dX1_signsOfLoser_34 : decode cX1_signsOfLoser 34 = .ok (.iload_n 1, 1) := by decide +kernel
theorem dX1_signsOfLoser_35 : decode cX1_signsOfLoser 35 = .ok (.invokevirtual 47, 3) := by decide +kernel
theorem dX1_signsOfLoser_38 : decode cX1_signsOfLoser 38 = .ok (.ifCond .eq 6, 3) := by decide +kernel
theorem dX1_signsOfLoser_41 : decode cX1_signsOfLoser 41 = .ok (.iinc 2 3, 3) := by decide +kernel
theorem dX1_signsOfLoser_44 : decode cX1_signsOfLoser 44 = .ok (.aload_n 0, 1) := by decide +kernel
theorem dX1_signsOfLoser_45 : decode cX1_signsOfLoser 45 = .ok (.iload_n 1, 1) := by decide +kernel
theorem dX1_signsOfLoser_46 : decode cX1_signsOfLoser 46 = .ok (.invokevirtual 50, 3) := by decide +kernel
theorem dX1_signsOfLoser_49 : decode cX1_signsOfLoser 49 = .ok (.ifCond .eq 6, 3) := by decide +kernel
theorem dX1_signsOfLoser_52 : decode cX1_signsOfLoser 52 = .ok (.iinc 2 1, 3) := by decide +kernel
theorem dX1_signsOfLoser_55 : decode cX1_signsOfLoser 55 = .ok (.iload_n 2, 1) := by decide +kernel
theorem dX1_signsOfLoser_56 : decode cX1_signsOfLoser 56 = .ok (.ireturn, 1) := by decide +kernel
set_option maxRecDepth 20000 in
theorem ggX1_isNear_X1_sumOf : GoodIn wsX1_isNear wsX1_sumOf := goodIn_r _ [6, 7, 8, 9, 10, 11, 12, 13, 14, 15, 16] (by decide +kernel) (by decide +kernel)
set_option maxRecDepth 20000 in
theorem gX1_isNear_X1_sumOf : GoodIn wsX1_isNear (wsV RX1 40 RX1 yX1_sumOf wsX1_sumOf) := goodIn_app (goodIn_of _ (by decide +kernel)) ggX1_isNear_X1_sumOf
theorem dX1_isNear_0 : decode cX1_isNear 0 = .ok (.aload_n 0, 1) := by decide +kernel
theorem dX1_isNear_1 : decode cX1_isNear 1 = .ok (.aload_n 0, 1) := by decide +kernel
theorem dX1_isNear_2 : decode cX1_isNear 2 = .ok (.getfield 23, 3) := by decide +kernel
theorem dX1_isNear_5 : decode cX1_isNear 5 = .ok (.invokevirtual 40, 3) := by decide +kernel
theorem dX1_isNear_8 : decode cX1_isNear 8 = .ok (.istore_n 2, 1) := by decide +kernel
theorem dX1_isNear_9 : decode cX1_isNear 9 = .ok (.iload_n 1, 1) := by decide +kernel
theorem dX1_isNear_10 : decode cX1_isNear 10 = .ok (.iload_n 2, 1) := by decide +kernel
theorem dX1_isNear_11 : decode cX1_isNear 11 = .ok (.if_icmp .le 19, 3) := by decide +kernel
theorem dX1_isNear_14 : decode cX1_isNear 14 = .ok (.iload_n 1, 1) := by decide +kernel
theorem dX1_isNear_15 : decode cX1_isNear 15 = .ok (.iload_n 2, 1) := by decide +kernel
theorem dX1_isNear_16 : decode cX1_isNear 16 = .ok (.isub, 1) := by decide +kernel
theorem dX1_isNear_17 : decode cX1_isNear 17 = .ok (.iload_n 2, 1) := by decide +kernel
theorem dX1_isNear_18 : decode cX1_isNear 18 = .ok (.iconst 5, 1) := by decide +kernel
theorem dX1_isNear_19 : decode cX1_isNear 19 = .ok (.imul, 1) := by decide +kernel
theorem dX1_isNear_20 : decode cX1_isNear 20 = .ok (.bipush 100, 2) := by decide +kernel
theorem dX1_isNear_22 : decode cX1_isNear 22 = .ok (.idiv, 1) := by decide +kernel
theorem dX1_isNear_23 : decode cX1_isNear 23 = .ok (.if_icmp .gt 7, 3) := by decide +kernel
theorem dX1_isNear_26 : decode cX1_isNear 26 = .ok (.iconst 1, 1) := by decide +kernel
theorem dX1_isNear_27 : decode cX1_isNear 27 = .ok (.goto 4, 3) := by decide +kernel
theorem dX1_isNear_30 : decode cX1_isNear 30 = .ok (.iconst 0, 1) := by decide +kernel
theorem dX1_isNear_31 : decode cX1_isNear 31 = .ok (.ireturn, 1) := by decide +kernel
theorem dX2_init_0 : decode cX2_init 0 = .ok (.aload_n 0, 1) := by decide +kernel
theorem dX2_init_1 : decode cX2_init 1 = .ok (.invokespecial 1, 3) := by decide +kernel
theorem dX2_init_4 : decode cX2_init 4 = .ok (.aload_n 0, 1) := by decide +kernel
theorem dX2_init_5 : decode cX2_init 5 = .ok (.bipush 30, 2) := by decide +kernel
theorem dX2_init_7 : decode cX2_init 7 = .ok (.anewarray 9, 3) := by decide +kernel
theorem dX2_init_10 : decode cX2_init 10 = .ok (.putfield 11, 3) := by decide +kernel
theorem dX2_init_13 : decode cX2_init 13 = .ok (.aload_n 0, 1) := by decide +kernel
theorem dX2_init_14 : decode cX2_init 14 = .ok (.iconst 0, 1) := by decide +kernel
theorem dX2_init_15 : decode cX2_init 15 = .ok (.putfield 15, 3) := by decide +kernel
theorem dX2_init_18 : decode cX2_init 18 = .ok (.aload_n 0, 1) := by decide +kernel
theorem dX2_init_19 : decode cX2_init 19 = .ok (.bipush 20, 2) := by decide +kernel
theorem dX2_init_21 : decode cX2_init 21 = .ok (.anewarray 19, 3) := by decide +kernel
theorem dX2_init_24 : decode cX2_init 24 = .ok (.putfield 21, 3) := by decide +kernel
theorem dX2_init_27 : decode cX2_init 27 = .ok (.aload_n 0, 1) := by decide +kernel
theorem dX2_init_28 : decode cX2_init 28 = .ok (.iconst 0, 1) := by decide +kernel
theorem dX2_init_29 : decode cX2_init 29 = .ok (.putfield 25, 3) := by decide +kernel
theorem dX2_init_32 : decode cX2_init 32 = .ok (.aload_n 0, 1) := by decide +kernel
theorem dX2_init_33 : decode cX2_init 33 = .ok (.bipush 7, 2) := by decide +kernel
theorem dX2_init_35 : decode cX2_init 35 = .ok (.newarray .int, 2) := by decide +kernel
theorem dX2_init_37 : decode cX2_init 37 = .ok (.putfield 28, 3) := by decide +kernel
theorem dX2_init_40 : decode cX2_init 40 = .ok (.aload_n 0, 1) := by decide +kernel
theorem dX2_init_41 : decode cX2_init 41 = .ok (.bipush 10, 2) := by decide +kernel
theorem dX2_init_43 : decode cX2_init 43 = .ok (.putfield 32, 3) := by decide +kernel
theorem dX2_init_46 : decode cX2_init 46 = .ok (.return_, 1) := by decide +kernel
set_option maxRecDepth 20000 in
theorem ggX2_open_X1_init : GoodIn wsX2_open wsX1_init := goodIn_r _ [9, 10, 11, 12, 13, 14, 15, 16, 17, 18, 19, 20, 27, 28, 29, 30, 31, 32] (by decide +kernel) (by decide +kernel)
set_option maxRecDepth 20000 in
theorem gX2_open_X1_init_n42 : GoodIn wsX2_open (wsX1_init) := ggX2_open_X1_init
theorem dX2_open_0 : decode cX2_open 0 = .ok (.aload_n 0, 1) := by decide +kernel
theorem dX2_open_1 : decode cX2_open 1 = .ok (.getfield 15, 3) := by decide +kernel
theorem dX2_open_4 : decode cX2_open 4 = .ok (.istore_n 1, 1) := by decide +kernel
theorem dX2_open_5 : decode cX2_open 5 = .ok (.iload_n 1, 1) := by decide +kernel
theorem dX2_open_6 : decode cX2_open 6 = .ok (.ifCond .lt 12, 3) := by decide +kernel
theorem dX2_open_9 : decode cX2_open 9 = .ok (.iload_n 1, 1) := by decide +kernel
theorem dX2_open_10 : decode cX2_open 10 = .ok (.aload_n 0, 1) := by decide +kernel
theorem dX2_open_11 : decode cX2_open 11 = .ok (.getfield 11, 3) := by decide +kernel
theorem dX2_open_14 : decode cX2_open 14 = .ok (.arraylength, 1) := by decide +kernel
theorem dX2_open_15 : decode cX2_open 15 = .ok (.if_icmp .lt 13, 3) := by decide +kernel
theorem dX2_open_18 : decode cX2_open 18 = .ok (.new 35, 3) := by decide +kernel
theorem dX2_open_21 : decode cX2_open 21 = .ok (.dup, 1) := by decide +kernel
theorem dX2_open_22 : decode cX2_open 22 = .ok (.ldc 37, 2) := by decide +kernel
theorem dX2_open_24 : decode cX2_open 24 = .ok (.invokespecial 39, 3) := by decide +kernel
theorem dX2_open_27 : decode cX2_open 27 = .ok (.athrow, 1) := by decide +kernel
theorem dX2_open_28 : decode cX2_open 28 = .ok (.aload_n 0, 1) := by decide +kernel
theorem dX2_open_29 : decode cX2_open 29 = .ok (.getfield 11, 3) := by decide +kernel
theorem dX2_open_32 : decode cX2_open 32 = .ok (.iload_n 1, 1) := by decide +kernel
theorem dX2_open_33 : decode cX2_open 33 = .ok (.new 9, 3) := by decide +kernel
theorem dX2_open_36 : decode cX2_open 36 = .ok (.dup, 1) := by decide +kernel
theorem dX2_open_37 : decode cX2_open 37 = .ok (.invokespecial 42, 3) := by decide +kernel
theorem dX2_open_40 : decode cX2_open 40 = .ok (.aastore, 1) := by decide +kernel
theorem dX2_open_41 : decode cX2_open 41 = .ok (.aload_n 0, 1) := by decide +kernel
theorem dX2_open_42 : decode cX2_open 42 = .ok (.iload_n 1, 1) := by decide +kernel
theorem dX2_open_43 : decode cX2_open 43 = .ok (.iconst 1, 1) := by decide +kernel
theorem dX2_open_44 : decode cX2_open 44 = .ok (.iadd, 1) := by decide +kernel
theorem dX2_open_45 : decode cX2_open 45 = .ok (.putfield 15, 3) := by decide +kernel
theorem dX2_open_48 : decode cX2_open 48 = .ok (.iload_n 1, 1) := by decide +kernel
theorem dX2_open_49 : decode cX2_open 49 = .ok (.ireturn, 1) := by decide +kernel
set_option maxRecDepth 20000 in
theorem ggX2_bid_X2_tenderAt : GoodIn wsX2_bid wsX2_tenderAt := goodIn_r _ [11, 12, 44, 45, 46, 47, 48, 49] (by decide +kernel) (by decide +kernel)
set_option maxRecDepth 20000 in
theorem gX2_bid_X2_tenderAt : GoodIn wsX2_bid (wsV RX2 43 RX2 yX2_tenderAt wsX2_tenderAt) := goodIn_app (goodIn_of _ (by decide +kernel)) ggX2_bid_X2_tenderAt
set_option maxRecDepth 20000 in
theorem ggX2_bid_X2_isBidder : GoodIn wsX2_bid wsX2_isBidder := goodIn_r _ [15] (by decide +kernel) (by decide +kernel)
set_option maxRecDepth 20000 in
theorem gX2_bid_X2_isBidder : GoodIn wsX2_bid (va_wsS RX2 52 yX2_isBidder wsX2_isBidder) := goodIn_app (goodIn_of _ (by decide +kernel)) ggX2_bid_X2_isBidder
set_option maxRecDepth 20000 in
theorem ggX2_bid_X2_isMoney : GoodIn wsX2_bid wsX2_isMoney := goodIn_r _ [18, 19] (by decide +kernel) (by decide +kernel)
set_option maxRecDepth 20000 in
theorem gX2_bid_X2_isMoney : GoodIn wsX2_bid (va_wsS RX2 56 yX2_isMoney wsX2_isMoney) := goodIn_app (goodIn_of _ (by decide +kernel)) ggX2_bid_X2_isMoney
set_option maxRecDepth 20000 in
theorem ggX2_bid_X1_isOpen : GoodIn wsX2_bid wsX1_isOpen := goodIn_r _ [24, 25, 50, 51, 52, 53, 54, 55] (by decide +kernel) (by decide +kernel)
set_option maxRecDepth 20000 in
theorem gX2_bid_X1_isOpen : GoodIn wsX2_bid (wsV RX2 64 RX1 yX1_isOpen wsX1_isOpen) := goodIn_app (goodIn_of _ (by decide +kernel)) ggX2_bid_X1_isOpen
set_option maxRecDepth 20000 in
theorem ggX2_bid_X1_hasBidOf : GoodIn wsX2_bid wsX1_hasBidOf := goodIn_r _ [29, 30, 14, 10, 15, 50, 51, 52, 53, 54, 55] (by decide +kernel) (by decide +kernel)
set_option maxRecDepth 20000 in
theorem gX2_bid_X1_hasBidOf : GoodIn wsX2_bid (wsV RX2 68 RX1 yX1_hasBidOf wsX1_hasBidOf) := goodIn_app (goodIn_of _ (by decide +kernel)) ggX2_bid_X1_hasBidOf
set_option maxRecDepth 20000 in
theorem ggX2_bid_X1_takeBid : GoodIn wsX2_bid wsX1_takeBid := goodIn_r _ [34, 30, 14, 10, 15, 50, 51, 52, 53, 54, 55] (by decide +kernel) (by decide +kernel)
set_option maxRecDepth 20000 in
theorem gX2_bid_X1_takeBid : GoodIn wsX2_bid (wsV RX2 73 RX1 yX1_takeBid wsX1_takeBid) := goodIn_app (goodIn_of _ (by decide +kernel)) ggX2_bid_X1_takeBid
set_option maxRecDepth 20000 in
theorem ggX2_bid_X1_countStanding : GoodIn wsX2_bid wsX1_countStanding := goodIn_r _ [38, 39, 40, 41, 23, 42, 30, 43, 14, 10, 15, 50, 51, 52, 53, 54, 55] (by decide +kernel) (by decide +kernel)
set_option maxRecDepth 20000 in
theorem gX2_bid_X1_countStanding : GoodIn wsX2_bid (wsV RX2 77 RX1 yX1_countStanding wsX1_countStanding) := goodIn_app (goodIn_of _ (by decide +kernel)) ggX2_bid_X1_countStanding
theorem dX2_bid_0 : decode cX2_bid 0 = .ok (.aload_n 0, 1) := by decide +kernel
theorem dX2_bid_1 : decode cX2_bid 1 = .ok (.iload_n 1, 1) := by decide +kernel
theorem dX2_bid_2 : decode cX2_bid 2 = .ok (.invokevirtual 43, 3) := by decide +kernel
theorem dX2_bid_5 : decode cX2_bid 5 = .ok (.astore 4, 2) := by decide +kernel
theorem dX2_bid_7 : decode cX2_bid 7 = .ok (.aload 4, 2) := by decide +kernel
theorem dX2_bid_9 : decode cX2_bid 9 = .ok (.ifnonnull 13, 3) := by decide +kernel
theorem dX2_bid_12 : decode cX2_bid 12 = .ok (.new 47, 3) := by decide +kernel
theorem dX2_bid_15 : decode cX2_bid 15 = .ok (.dup, 1) := by decide +kernel
theorem dX2_bid_16 : decode cX2_bid 16 = .ok (.ldc 49, 2) := by decide +kernel
theorem dX2_bid_18 : decode cX2_bid 18 = .ok (.invokespecial 51, 3) := by decide +kernel
theorem dX2_bid_21 : decode cX2_bid 21 = .ok (.athrow, 1) := by decide +kernel
theorem dX2_bid_22 : decode cX2_bid 22 = .ok (.iload_n 2, 1) := by decide +kernel
theorem dX2_bid_23 : decode cX2_bid 23 = .ok (.invokestatic 52, 3) := by decide +kernel
theorem dX2_bid_26 : decode cX2_bid 26 = .ok (.ifCond .eq 10, 3) := by decide +kernel
theorem dX2_bid_29 : decode cX2_bid 29 = .ok (.iload_n 3, 1) := by decide +kernel
theorem dX2_bid_30 : decode cX2_bid 30 = .ok (.invokestatic 56, 3) := by decide +kernel
theorem dX2_bid_33 : decode cX2_bid 33 = .ok (.ifCond .ne 13, 3) := by decide +kernel
theorem dX2_bid_36 : decode cX2_bid 36 = .ok (.new 59, 3) := by decide +kernel
theorem dX2_bid_39 : decode cX2_bid 39 = .ok (.dup, 1) := by decide +kernel
theorem dX2_bid_40 : decode cX2_bid 40 = .ok (.ldc 61, 2) := by decide +kernel
theorem dX2_bid_42 : decode cX2_bid 42 = .ok (.invokespecial 63, 3) := by decide +kernel
theorem dX2_bid_45 : decode cX2_bid 45 = .ok (.athrow, 1) := by decide +kernel
theorem dX2_bid_46 : decode cX2_bid 46 = .ok (.aload 4, 2) := by decide +kernel
theorem dX2_bid_48 : decode cX2_bid 48 = .ok (.invokevirtual 64, 3) := by decide +kernel
theorem dX2_bid_51 : decode cX2_bid 51 = .ok (.ifCond .eq 12, 3) := by decide +kernel
theorem dX2_bid_54 : decode cX2_bid 54 = .ok (.aload 4, 2) := by decide +kernel
theorem dX2_bid_56 : decode cX2_bid 56 = .ok (.iload_n 2, 1) := by decide +kernel
theorem dX2_bid_57 : decode cX2_bid 57 = .ok (.invokevirtual 68, 3) := by decide +kernel
theorem dX2_bid_60 : decode cX2_bid 60 = .ok (.ifCond .eq 13, 3) := by decide +kernel
theorem dX2_bid_63 : decode cX2_bid 63 = .ok (.new 35, 3) := by decide +kernel
theorem dX2_bid_66 : decode cX2_bid 66 = .ok (.dup, 1) := by decide +kernel
theorem dX2_bid_67 : decode cX2_bid 67 = .ok (.ldc 71, 2) := by decide +kernel
theorem dX2_bid_69 : decode cX2_bid 69 = .ok (.invokespecial 39, 3) := by decide +kernel
theorem dX2_bid_72 : decode cX2_bid 72 = .ok (.athrow, 1) := by decide +kernel
theorem dX2_bid_73 : decode cX2_bid 73 = .ok (.aload 4, 2) := by decide +kernel
theorem dX2_bid_75 : decode cX2_bid 75 = .ok (.iload_n 2, 1) := by decide +kernel
theorem dX2_bid_76 : decode cX2_bid 76 = .ok (.iload_n 3, 1) := by decide +kernel
theorem dX2_bid_77 : decode cX2_bid 77 = .ok (.invokevirtual 73, 3) := by decide +kernel
theorem dX2_bid_80 : decode cX2_bid 80 = .ok (.aload 4, 2) := by decide +kernel
theorem dX2_bid_82 : decode cX2_bid 82 = .ok (.invokevirtual 77, 3) := by decide +kernel
theorem dX2_bid_85 : decode cX2_bid 85 = .ok (.ireturn, 1) := by decide +kernel
set_option maxRecDepth 20000 in
theorem ggX2_withdraw_X2_tenderAt : GoodIn wsX2_withdraw wsX2_tenderAt := goodIn_r _ [11, 12, 36, 37, 38, 39, 40, 41] (by decide +kernel) (by decide +kernel)
set_option maxRecDepth 20000 in
theorem gX2_withdraw_X2_tenderAt : GoodIn wsX2_withdraw (wsV RX2 43 RX2 yX2_tenderAt wsX2_tenderAt) := goodIn_app (goodIn_of _ (by decide +kernel)) ggX2_withdraw_X2_tenderAt
set_option maxRecDepth 20000 in
theorem ggX2_withdraw_X2_isBidder : GoodIn wsX2_withdraw wsX2_isBidder := goodIn_r _ [15] (by decide +kernel) (by decide +kernel)
set_option maxRecDepth 20000 in
theorem gX2_withdraw_X2_isBidder : GoodIn wsX2_withdraw (va_wsS RX2 52 yX2_isBidder wsX2_isBidder) := goodIn_app (goodIn_of _ (by decide +kernel)) ggX2_withdraw_X2_isBidder
set_option maxRecDepth 20000 in
theorem ggX2_withdraw_X1_isOpen : GoodIn wsX2_withdraw wsX1_isOpen := goodIn_r _ [20, 21, 42, 43, 44, 45, 46, 47] (by decide +kernel) (by decide +kernel)
set_option maxRecDepth 20000 in
theorem gX2_withdraw_X1_isOpen : GoodIn wsX2_withdraw (wsV RX2 64 RX1 yX1_isOpen wsX1_isOpen) := goodIn_app (goodIn_of _ (by decide +kernel)) ggX2_withdraw_X1_isOpen
set_option maxRecDepth 20000 in
theorem ggX2_withdraw_X1_isStanding : GoodIn wsX2_withdraw wsX1_isStanding := goodIn_r _ [25, 26, 27, 14, 10, 15, 42, 43, 44, 45, 46, 47] (by decide +kernel) (by decide +kernel)
set_option maxRecDepth 20000 in
theorem gX2_withdraw_X1_isStanding : GoodIn wsX2_withdraw (wsV RX2 83 RX1 yX1_isStanding wsX1_isStanding) := goodIn_app (goodIn_of _ (by decide +kernel)) ggX2_withdraw_X1_isStanding
set_option maxRecDepth 20000 in
theorem ggX2_withdraw_X1_giveBack : GoodIn wsX2_withdraw wsX1_giveBack := goodIn_r _ [31, 27, 14, 10, 15, 42, 43, 44, 45, 46, 47] (by decide +kernel) (by decide +kernel)
set_option maxRecDepth 20000 in
theorem gX2_withdraw_X1_giveBack : GoodIn wsX2_withdraw (wsV RX2 88 RX1 yX1_giveBack wsX1_giveBack) := goodIn_app (goodIn_of _ (by decide +kernel)) ggX2_withdraw_X1_giveBack
set_option maxRecDepth 20000 in
theorem ggX2_withdraw_X1_sumOf : GoodIn wsX2_withdraw wsX1_sumOf := goodIn_r _ [35, 26, 14, 10, 15, 42, 43, 44, 45, 46, 47] (by decide +kernel) (by decide +kernel)
set_option maxRecDepth 20000 in
theorem gX2_withdraw_X1_sumOf : GoodIn wsX2_withdraw (wsV RX2 92 RX1 yX1_sumOf wsX1_sumOf) := goodIn_app (goodIn_of _ (by decide +kernel)) ggX2_withdraw_X1_sumOf
theorem dX2_withdraw_0 : decode cX2_withdraw 0 = .ok (.aload_n 0, 1) := by decide +kernel
theorem dX2_withdraw_1 : decode cX2_withdraw 1 = .ok (.iload_n 1, 1) := by decide +kernel
theorem dX2_withdraw_2 : decode cX2_withdraw 2 = .ok (.invokevirtual 43, 3) := by decide +kernel
theorem dX2_withdraw_5 : decode cX2_withdraw 5 = .ok (.astore_n 3, 1) := by decide +kernel
theorem dX2_withdraw_6 : decode cX2_withdraw 6 = .ok (.aload_n 3, 1) := by decide +kernel
theorem dX2_withdraw_7 : decode cX2_withdraw 7 = .ok (.ifnonnull 13, 3) := by decide +kernel
theorem dX2_withdraw_10 : decode cX2_withdraw 10 = .ok (.new 47, 3) := by decide +kernel
theorem dX2_withdraw_13 : decode cX2_withdraw 13 = .ok (.dup, 1) := by decide +kernel
theorem dX2_withdraw_14 : decode cX2_withdraw 14 = .ok (.ldc 49, 2) := by decide +kernel
theorem dX2_withdraw_16 : decode cX2_withdraw 16 = .ok (.invokespecial 51, 3) := by decide +kernel
theorem dX2_withdraw_19 : decode cX2_withdraw 19 = .ok (.athrow, 1) := by decide +kernel
theorem dX2_withdraw_20 : decode cX2_withdraw 20 = .ok (.iload_n 2, 1) := by decide +kernel
theorem dX2_withdraw_21 : decode cX2_withdraw 21 = .ok (.invokestatic 52, 3) := by decide +kernel
theorem dX2_withdraw_24 : decode cX2_withdraw 24 = .ok (.ifCond .ne 13, 3) := by decide +kernel
theorem dX2_withdraw_27 : decode cX2_withdraw 27 = .ok (.new 59, 3) := by decide +kernel
theorem dX2_withdraw_30 : decode cX2_withdraw 30 = .ok (.dup, 1) := by decide +kernel
theorem dX2_withdraw_31 : decode cX2_withdraw 31 = .ok (.ldc 81, 2) := by decide +kernel
theorem dX2_withdraw_33 : decode cX2_withdraw 33 = .ok (.invokespecial 63, 3) := by decide +kernel
theorem dX2_withdraw_36 : decode cX2_withdraw 36 = .ok (.athrow, 1) := by decide +kernel
theorem dX2_withdraw_37 : decode cX2_withdraw 37 = .ok (.aload_n 3, 1) := by decide +kernel
theorem dX2_withdraw_38 : decode cX2_withdraw 38 = .ok (.invokevirtual 64, 3) := by decide +kernel
theorem dX2_withdraw_41 : decode cX2_withdraw 41 = .ok (.ifCond .eq 11, 3) := by decide +kernel
theorem dX2_withdraw_44 : decode cX2_withdraw 44 = .ok (.aload_n 3, 1) := by decide +kernel
theorem dX2_withdraw_45 : decode cX2_withdraw 45 = .ok (.iload_n 2, 1) := by decide +kernel
theorem dX2_withdraw_46 : decode cX2_withdraw 46 = .ok (.invokevirtual 83, 3) := by decide +kernel
theorem dX2_withdraw_49 : decode cX2_withdraw 49 = .ok (.ifCond .ne 13, 3) := by decide +kernel
theorem dX2_withdraw_52 : decode cX2_withdraw 52 = .ok (.new 35, 3) := by decide +kernel
theorem dX2_withdraw_55 : decode cX2_withdraw 55 = .ok (.dup, 1) := by decide +kernel
theorem dX2_withdraw_56 : decode cX2_withdraw 56 = .ok (.ldc 86, 2) := by decide +kernel
theorem dX2_withdraw_58 : decode cX2_withdraw 58 = .ok (.invokespecial 39, 3) := by decide +kernel
theorem dX2_withdraw_61 : decode cX2_withdraw 61 = .ok (.athrow, 1) := by decide +kernel
theorem dX2_withdraw_62 : decode cX2_withdraw 62 = .ok (.aload_n 3, 1) := by decide +kernel
theorem dX2_withdraw_63 : decode cX2_withdraw 63 = .ok (.iload_n 2, 1) := by decide +kernel
theorem dX2_withdraw_64 : decode cX2_withdraw 64 = .ok (.invokevirtual 88, 3) := by decide +kernel
theorem dX2_withdraw_67 : decode cX2_withdraw 67 = .ok (.aload_n 3, 1) := by decide +kernel
theorem dX2_withdraw_68 : decode cX2_withdraw 68 = .ok (.iload_n 2, 1) := by decide +kernel
theorem dX2_withdraw_69 : decode cX2_withdraw 69 = .ok (.invokevirtual 92, 3) := by decide +kernel
theorem dX2_withdraw_72 : decode cX2_withdraw 72 = .ok (.ireturn, 1) := by decide +kernel
set_option maxRecDepth 20000 in
theorem ggX2_award_X2_tenderAt : GoodIn wsX2_award wsX2_tenderAt := goodIn_r _ [9, 10, 38, 39, 40, 41, 42, 43] (by decide +kernel) (by decide +kernel)
set_option maxRecDepth 20000 in
theorem gX2_award_X2_tenderAt : GoodIn wsX2_award (wsV RX2 43 RX2 yX2_tenderAt wsX2_tenderAt) := goodIn_app (goodIn_of _ (by decide +kernel)) ggX2_award_X2_tenderAt
set_option maxRecDepth 20000 in
theorem ggX2_award_X1_isOpen : GoodIn wsX2_award wsX1_isOpen := goodIn_r _ [15, 16, 44, 45, 46, 47, 48, 49] (by decide +kernel) (by decide +kernel)
set_option maxRecDepth 20000 in
theorem gX2_award_X1_isOpen : GoodIn wsX2_award (wsV RX2 64 RX1 yX1_isOpen wsX1_isOpen) := goodIn_app (goodIn_of _ (by decide +kernel)) ggX2_award_X1_isOpen
set_option maxRecDepth 20000 in
theorem ggX2_award_X1_decide : GoodIn wsX2_award wsX1_decide := goodIn_r _ [20, 21, 16, 22, 23, 24, 14, 25, 26, 27, 28, 8, 29, 30, 31, 32, 33, 44, 45, 46, 47, 48, 49] (by decide +kernel) (by decide +kernel)
set_option maxRecDepth 20000 in
theorem gX2_award_X1_decide : GoodIn wsX2_award (wsV RX2 98 RX1 yX1_decide wsX1_decide) := goodIn_app (goodIn_of _ (by decide +kernel)) ggX2_award_X1_decide
set_option maxRecDepth 20000 in
theorem ggX2_award_X1_winner : GoodIn wsX2_award wsX1_winner := goodIn_r _ [37, 21, 44, 45, 46, 47, 48, 49] (by decide +kernel) (by decide +kernel)
