theorem dL_tenders_544 : decode cL_tenders 544 = .ok (.iaload, 1) := by decide +kernel
theorem dL_tenders_545 : decode cL_tenders 545 = .ok (.goto 5, 3) := by decide +kernel
theorem dL_tenders_548 : decode cL_tenders 548 = .ok (.bipush 9, 2) := by decide +kernel
theorem dL_tenders_550 : decode cL_tenders 550 = .ok (.istore 12, 2) := by decide +kernel
theorem dL_tenders_552 : decode cL_tenders 552 = .ok (.iconst 1, 1) := by decide +kernel
theorem dL_tenders_553 : decode cL_tenders 553 = .ok (.iload_n 2, 1) := by decide +kernel
theorem dL_tenders_554 : decode cL_tenders 554 = .ok (.bipush 7, 2) := by decide +kernel
theorem dL_tenders_556 : decode cL_tenders 556 = .ok (.ishr, 1) := by decide +kernel
theorem dL_tenders_557 : decode cL_tenders 557 = .ok (.iload_n 2, 1) := by decide +kernel
theorem dL_tenders_558 : decode cL_tenders 558 = .ok (.bipush 12, 2) := by decide +kernel
theorem dL_tenders_560 : decode cL_tenders 560 = .ok (.ishr, 1) := by decide +kernel
theorem dL_tenders_561 : decode cL_tenders 561 = .ok (.bipush 6, 2) := by decide +kernel
theorem dL_tenders_563 : decode cL_tenders 563 = .ok (.invokestatic 87, 3) := by decide +kernel
theorem dL_tenders_566 : decode cL_tenders 566 = .ok (.ifCond .ne 10, 3) := by decide +kernel
theorem dL_tenders_569 : decode cL_tenders 569 = .ok (.iload 12, 2) := by decide +kernel
theorem dL_tenders_571 : decode cL_tenders 571 = .ok (.iconst 1, 1) := by decide +kernel
theorem dL_tenders_572 : decode cL_tenders 572 = .ok (.iadd, 1) := by decide +kernel
theorem dL_tenders_573 : decode cL_tenders 573 = .ok (.goto 5, 3) := by decide +kernel
theorem dL_tenders_576 : decode cL_tenders 576 = .ok (.iload 12, 2) := by decide +kernel
theorem dL_tenders_578 : decode cL_tenders 578 = .ok (.invokestatic 87, 3) := by decide +kernel
theorem dL_tenders_581 : decode cL_tenders 581 = .ok (.iadd, 1) := by decide +kernel
theorem dL_tenders_582 : decode cL_tenders 582 = .ok (.istore 13, 2) := by decide +kernel
theorem dL_tenders_584 : decode cL_tenders 584 = .ok (.iload 11, 2) := by decide +kernel
theorem dL_tenders_586 : decode cL_tenders 586 = .ok (.ifCond .ne 8, 3) := by decide +kernel
theorem dL_tenders_589 : decode cL_tenders 589 = .ok (.bipush (-3), 2) := by decide +kernel
theorem dL_tenders_591 : decode cL_tenders 591 = .ok (.goto 24, 3) := by decide +kernel
theorem dL_tenders_594 : decode cL_tenders 594 = .ok (.iload 8, 2) := by decide +kernel
theorem dL_tenders_596 : decode cL_tenders 596 = .ok (.iload 10, 2) := by decide +kernel
theorem dL_tenders_598 : decode cL_tenders 598 = .ok (.if_icmp .eq 10, 3) := by decide +kernel
theorem dL_tenders_601 : decode cL_tenders 601 = .ok (.iload 13, 2) := by decide +kernel
theorem dL_tenders_603 : decode cL_tenders 603 = .ok (.iload 12, 2) := by decide +kernel
theorem dL_tenders_605 : decode cL_tenders 605 = .ok (.if_icmp .le 8, 3) := by decide +kernel
theorem dL_tenders_608 : decode cL_tenders 608 = .ok (.bipush (-2), 2) := by decide +kernel
theorem dL_tenders_610 : decode cL_tenders 610 = .ok (.goto 5, 3) := by decide +kernel
theorem dL_tenders_613 : decode cL_tenders 613 = .ok (.iload 10, 2) := by decide +kernel
theorem dL_tenders_615 : decode cL_tenders 615 = .ok (.istore 14, 2) := by decide +kernel
theorem dL_tenders_617 : decode cL_tenders 617 = .ok (.iload 14, 2) := by decide +kernel
theorem dL_tenders_619 : decode cL_tenders 619 = .ok (.ifCond .lt 25, 3) := by decide +kernel
theorem dL_tenders_622 : decode cL_tenders 622 = .ok (.aload 4, 2) := by decide +kernel
theorem dL_tenders_624 : decode cL_tenders 624 = .ok (.iconst 4, 1) := by decide +kernel
theorem dL_tenders_625 : decode cL_tenders 625 = .ok (.iload 7, 2) := by decide +kernel
theorem dL_tenders_627 : decode cL_tenders 627 = .ok (.imul, 1) := by decide +kernel
theorem dL_tenders_628 : decode cL_tenders 628 = .ok (.iconst 2, 1) := by decide +kernel
theorem dL_tenders_629 : decode cL_tenders 629 = .ok (.iadd, 1) := by decide +kernel
theorem dL_tenders_630 : decode cL_tenders 630 = .ok (.iload 8, 2) := by decide +kernel
theorem dL_tenders_632 : decode cL_tenders 632 = .ok (.iastore, 1) := by decide +kernel
theorem dL_tenders_633 : decode cL_tenders 633 = .ok (.aload 4, 2) := by decide +kernel
theorem dL_tenders_635 : decode cL_tenders 635 = .ok (.iconst 4, 1) := by decide +kernel
theorem dL_tenders_636 : decode cL_tenders 636 = .ok (.iload 7, 2) := by decide +kernel
theorem dL_tenders_638 : decode cL_tenders 638 = .ok (.imul, 1) := by decide +kernel
theorem dL_tenders_639 : decode cL_tenders 639 = .ok (.iconst 3, 1) := by decide +kernel
theorem dL_tenders_640 : decode cL_tenders 640 = .ok (.iadd, 1) := by decide +kernel
theorem dL_tenders_641 : decode cL_tenders 641 = .ok (.iload 13, 2) := by decide +kernel
theorem dL_tenders_643 : decode cL_tenders 643 = .ok (.iastore, 1) := by decide +kernel
theorem dL_tenders_644 : decode cL_tenders 644 = .ok (.aload_n 0, 1) := by decide +kernel
theorem dL_tenders_645 : decode cL_tenders 645 = .ok (.iconst 3, 1) := by decide +kernel
theorem dL_tenders_646 : decode cL_tenders 646 = .ok (.iload 7, 2) := by decide +kernel
theorem dL_tenders_648 : decode cL_tenders 648 = .ok (.iload 8, 2) := by decide +kernel
theorem dL_tenders_650 : decode cL_tenders 650 = .ok (.iload 13, 2) := by decide +kernel
theorem dL_tenders_652 : decode cL_tenders 652 = .ok (.invokestatic 91, 3) := by decide +kernel
theorem dL_tenders_655 : decode cL_tenders 655 = .ok (.iload 14, 2) := by decide +kernel
theorem dL_tenders_657 : decode cL_tenders 657 = .ok (.if_icmp .ne 7, 3) := by decide +kernel
theorem dL_tenders_660 : decode cL_tenders 660 = .ok (.iconst 1, 1) := by decide +kernel
theorem dL_tenders_661 : decode cL_tenders 661 = .ok (.goto 4, 3) := by decide +kernel
theorem dL_tenders_664 : decode cL_tenders 664 = .ok (.iconst 0, 1) := by decide +kernel
theorem dL_tenders_665 : decode cL_tenders 665 = .ok (.ireturn, 1) := by decide +kernel
set_option maxRecDepth 20000 in
theorem ggL_files_L_low : GoodIn wsL_files wsL_low := goodIn_r _ [4, 5] (by decide +kernel) (by decide +kernel)
set_option maxRecDepth 20000 in
theorem gL_files_L_low : GoodIn wsL_files (va_wsS RL 87 yL_low wsL_low) := goodIn_app (goodIn_of _ (by decide +kernel)) ggL_files_L_low
set_option maxRecDepth 20000 in
theorem ggL_files_L_suspicion : GoodIn wsL_files wsL_suspicion := goodIn_r _ [8, 9, 10, 3, 11, 12, 13, 14] (by decide +kernel) (by decide +kernel)
set_option maxRecDepth 20000 in
theorem gL_files_L_suspicion : GoodIn wsL_files (va_wsS RL 58 yL_suspicion wsL_suspicion) := goodIn_app (goodIn_of _ (by decide +kernel)) ggL_files_L_suspicion
set_option maxRecDepth 20000 in
theorem ggL_files_L_sign : GoodIn wsL_files wsL_sign := goodIn_r _ [11, 12, 13, 3, 14] (by decide +kernel) (by decide +kernel)
set_option maxRecDepth 20000 in
theorem gL_files_L_sign : GoodIn wsL_files (va_wsS RL 47 yL_sign wsL_sign) := goodIn_app (goodIn_of _ (by decide +kernel)) ggL_files_L_sign
set_option maxRecDepth 20000 in
theorem ggL_files_L_calls : GoodIn wsL_files wsL_calls := goodIn_ca (goodIn_ca (goodIn_ca (goodIn_r _ [17, 18, 19, 20, 21, 22, 23, 24, 25, 26, 27, 28, 29, 30, 31, 32, 33, 34, 35, 36, 37, 38, 39, 40, 41, 42, 43, 44, 45, 46, 47, 48, 49, 50, 51, 52, 53, 54, 55, 56, 57, 58, 59, 60, 61, 62, 63, 64, 65, 66, 67, 68, 69, 70, 71, 72, 73, 74, 75, 76, 77, 78, 79, 80, 81, 82, 83, 84, 85, 86, 87, 88, 89, 90, 91, 92, 93, 94, 95, 96, 97, 98, 99, 100, 101, 102, 103, 104, 105, 106, 107, 108, 109, 110, 111, 112, 113, 114, 115, 116, 117, 118, 119, 120, 121, 122, 123, 124, 125, 126, 127, 128, 129, 130, 131, 132, 133, 134, 135, 136, 137, 138, 139, 140, 141, 142, 143, 144, 145, 146, 147, 148, 149, 150, 151, 152, 153, 154, 155, 156, 157, 158, 159, 160, 161, 162, 163, 164, 165, 166, 167, 168, 169, 170, 171, 172, 173, 174, 175, 176, 177, 178, 179, 180, 181, 182, 183, 184, 185, 186, 187, 188, 189, 190, 191, 192, 193, 194, 195, 196, 197, 198, 199, 200, 201, 202, 203, 204, 205, 206, 207, 208, 209, 210, 211, 212, 213, 214, 215, 216, 217, 218, 219, 220, 221, 222, 223, 224, 225, 226, 227, 228, 229, 230, 231, 232, 233, 234, 244, 245, 246, 247, 248, 249, 250, 251, 252, 253, 254, 255, 256, 257, 258, 259, 260, 261, 262, 263] (by decide +kernel) (by decide +kernel)) (goodIn_sub (fun _ h => List.mem_cons_of_mem _ (List.mem_append_left _ (List.mem_append_left _ (List.mem_append_right _ h)))) (by decide +kernel))) (goodIn_sub (fun _ h => List.mem_cons_of_mem _ (List.mem_append_left _ (List.mem_append_right _ h))) (by decide +kernel))) (goodIn_sub (fun _ h => List.mem_cons_of_mem _ (List.mem_append_right _ h)) (by decide +kernel))
set_option maxRecDepth 20000 in
theorem gL_files_L_calls : GoodIn wsL_files (va_wsS RL 91 yL_calls wsL_calls) := goodIn_app (goodIn_of _ (by decide +kernel)) ggL_files_L_calls
set_option maxRecDepth 20000 in
theorem ggL_files_L_fine : GoodIn wsL_files wsL_fine := goodIn_r _ [237, 238, 239, 3, 240, 241, 242, 243] (by decide +kernel) (by decide +kernel)
set_option maxRecDepth 20000 in
theorem gL_files_L_fine : GoodIn wsL_files (va_wsS RL 95 yL_fine wsL_fine) := goodIn_app (goodIn_of _ (by decide +kernel)) ggL_files_L_fine
theorem dL_files_0 : decode cL_files 0 = .ok (.iload_n 1, 1) := by decide +kernel
theorem dL_files_1 : decode cL_files 1 = .ok (.ifCond .eq 9, 3) := by decide +kernel
theorem dL_files_4 : decode cL_files 4 = .ok (.aload_n 3, 1) := by decide +kernel
theorem dL_files_5 : decode cL_files 5 = .ok (.iconst 2, 1) := by decide +kernel
theorem dL_files_6 : decode cL_files 6 = .ok (.iaload, 1) := by decide +kernel
theorem dL_files_7 : decode cL_files 7 = .ok (.ifCond .ne 312, 3) := by decide +kernel
theorem dL_files_10 : decode cL_files 10 = .ok (.iload_n 2, 1) := by decide +kernel
theorem dL_files_11 : decode cL_files 11 = .ok (.iconst 4, 1) := by decide +kernel
theorem dL_files_12 : decode cL_files 12 = .ok (.invokestatic 87, 3) := by decide +kernel
theorem dL_files_15 : decode cL_files 15 = .ok (.istore 9, 2) := by decide +kernel
theorem dL_files_17 : decode cL_files 17 = .ok (.iload_n 2, 1) := by decide +kernel
theorem dL_files_18 : decode cL_files 18 = .ok (.iconst 3, 1) := by decide +kernel
theorem dL_files_19 : decode cL_files 19 = .ok (.ishr, 1) := by decide +kernel
theorem dL_files_20 : decode cL_files 20 = .ok (.iconst 4, 1) := by decide +kernel
theorem dL_files_21 : decode cL_files 21 = .ok (.invokestatic 87, 3) := by decide +kernel
theorem dL_files_24 : decode cL_files 24 = .ok (.istore 10, 2) := by decide +kernel
theorem dL_files_26 : decode cL_files 26 = .ok (.iconst 0, 1) := by decide +kernel
theorem dL_files_27 : decode cL_files 27 = .ok (.istore 11, 2) := by decide +kernel
theorem dL_files_29 : decode cL_files 29 = .ok (.iconst 0, 1) := by decide +kernel
theorem dL_files_30 : decode cL_files 30 = .ok (.istore 12, 2) := by decide +kernel
theorem dL_files_32 : decode cL_files 32 = .ok (.iload 12, 2) := by decide +kernel
theorem dL_files_34 : decode cL_files 34 = .ok (.aload_n 3, 1) := by decide +kernel
theorem dL_files_35 : decode cL_files 35 = .ok (.iconst 2, 1) := by decide +kernel
theorem dL_files_36 : decode cL_files 36 = .ok (.iaload, 1) := by decide +kernel
theorem dL_files_37 : decode cL_files 37 = .ok (.if_icmp .ge 74, 3) := by decide +kernel
theorem dL_files_40 : decode cL_files 40 = .ok (.iload 11, 2) := by decide +kernel
theorem dL_files_42 : decode cL_files 42 = .ok (.ifCond .ne 56, 3) := by decide +kernel
theorem dL_files_45 : decode cL_files 45 = .ok (.aload 7, 2) := by decide +kernel
theorem dL_files_47 : decode cL_files 47 = .ok (.bipush 8, 2) := by decide +kernel
theorem dL_files_49 : decode cL_files 49 = .ok (.iload 12, 2) := by decide +kernel
theorem dL_files_51 : decode cL_files 51 = .ok (.imul, 1) := by decide +kernel
theorem dL_files_52 : decode cL_files 52 = .ok (.iaload, 1) := by decide +kernel
theorem dL_files_53 : decode cL_files 53 = .ok (.aload 7, 2) := by decide +kernel
theorem dL_files_55 : decode cL_files 55 = .ok (.bipush 8, 2) := by decide +kernel
theorem dL_files_57 : decode cL_files 57 = .ok (.iload 12, 2) := by decide +kernel
theorem dL_files_59 : decode cL_files 59 = .ok (.imul, 1) := by decide +kernel
theorem dL_files_60 : decode cL_files 60 = .ok (.iconst 1, 1) := by decide +kernel
theorem dL_files_61 : decode cL_files 61 = .ok (.iadd, 1) := by decide +kernel
theorem dL_files_62 : decode cL_files 62 = .ok (.iaload, 1) := by decide +kernel
theorem dL_files_63 : decode cL_files 63 = .ok (.iadd, 1) := by decide +kernel
theorem dL_files_64 : decode cL_files 64 = .ok (.iload 9, 2) := by decide +kernel
theorem dL_files_66 : decode cL_files 66 = .ok (.iload 10, 2) := by decide +kernel
theorem dL_files_68 : decode cL_files 68 = .ok (.iadd, 1) := by decide +kernel
theorem dL_files_69 : decode cL_files 69 = .ok (.if_icmp .ne 33, 3) := by decide +kernel
theorem dL_files_72 : decode cL_files 72 = .ok (.aload 7, 2) := by decide +kernel
theorem dL_files_74 : decode cL_files 74 = .ok (.bipush 8, 2) := by decide +kernel
theorem dL_files_76 : decode cL_files 76 = .ok (.iload 12, 2) := by decide +kernel
theorem dL_files_78 : decode cL_files 78 = .ok (.imul, 1) := by decide +kernel
theorem dL_files_79 : decode cL_files 79 = .ok (.iaload, 1) := by decide +kernel
theorem dL_files_80 : decode cL_files 80 = .ok (.iload 9, 2) := by decide +kernel
theorem dL_files_82 : decode cL_files 82 = .ok (.if_icmp .eq 16, 3) := by decide +kernel
theorem dL_files_85 : decode cL_files 85 = .ok (.aload 7, 2) := by decide +kernel
theorem dL_files_87 : decode cL_files 87 = .ok (.bipush 8, 2) := by decide +kernel
theorem dL_files_89 : decode cL_files 89 = .ok (.iload 12, 2) := by decide +kernel
theorem dL_files_91 : decode cL_files 91 = .ok (.imul, 1) := by decide +kernel
theorem dL_files_92 : decode cL_files 92 = .ok (.iaload, 1) := by decide +kernel
theorem dL_files_93 : decode cL_files 93 = .ok (.iload 10, 2) := by decide +kernel
theorem dL_files_95 : decode cL_files 95 = .ok (.if_icmp .ne 7, 3) := by decide +kernel
theorem dL_files_98 : decode cL_files 98 = .ok (.iconst 1, 1) := by decide +kernel
theorem dL_files_99 : decode cL_files 99 = .ok (.goto 4, 3) := by decide +kernel
theorem dL_files_102 : decode cL_files 102 = .ok (.iconst 0, 1) := by decide +kernel
theorem dL_files_103 : decode cL_files 103 = .ok (.istore 11, 2) := by decide +kernel
theorem dL_files_105 : decode cL_files 105 = .ok (.iinc 12 1, 3) := by decide +kernel
theorem dL_files_108 : decode cL_files 108 = .ok (.goto (-76), 3) := by decide +kernel
theorem dL_files_111 : decode cL_files 111 = .ok (.iload 9, 2) := by decide +kernel
theorem dL_files_113 : decode cL_files 113 = .ok (.iload 10, 2) := by decide +kernel
theorem dL_files_115 : decode cL_files 115 = .ok (.if_icmp .eq 32, 3) := by decide +kernel
theorem dL_files_118 : decode cL_files 118 = .ok (.iload 11, 2) := by decide +kernel
theorem dL_files_120 : decode cL_files 120 = .ok (.ifCond .ne 27, 3) := by decide +kernel
theorem dL_files_123 : decode cL_files 123 = .ok (.iload 9, 2) := by decide +kernel
theorem dL_files_125 : decode cL_files 125 = .ok (.iload 10, 2) := by decide +kernel
theorem dL_files_127 : decode cL_files 127 = .ok (.aload_n 3, 1) := by decide +kernel
theorem dL_files_128 : decode cL_files 128 = .ok (.aload 4, 2) := by decide +kernel
theorem dL_files_130 : decode cL_files 130 = .ok (.aload 5, 2) := by decide +kernel
theorem dL_files_132 : decode cL_files 132 = .ok (.aload 6, 2) := by decide +kernel
theorem dL_files_134 : decode cL_files 134 = .ok (.invokestatic 58, 3) := by decide +kernel
theorem dL_files_137 : decode cL_files 137 = .ok (.aload_n 3, 1) := by decide +kernel
theorem dL_files_138 : decode cL_files 138 = .ok (.iconst 1, 1) := by decide +kernel
theorem dL_files_139 : decode cL_files 139 = .ok (.iaload, 1) := by decide +kernel
theorem dL_files_140 : decode cL_files 140 = .ok (.if_icmp .lt 7, 3) := by decide +kernel
theorem dL_files_143 : decode cL_files 143 = .ok (.iconst 1, 1) := by decide +kernel
theorem dL_files_144 : decode cL_files 144 = .ok (.goto 4, 3) := by decide +kernel
theorem dL_files_147 : decode cL_files 147 = .ok (.iconst 0, 1) := by decide +kernel
theorem dL_files_148 : decode cL_files 148 = .ok (.istore 12, 2) := by decide +kernel
theorem dL_files_150 : decode cL_files 150 = .ok (.iload 9, 2) := by decide +kernel
theorem dL_files_152 : decode cL_files 152 = .ok (.iload 10, 2) := by decide +kernel
theorem dL_files_154 : decode cL_files 154 = .ok (.if_icmp .ne 8, 3) := by decide +kernel
theorem dL_files_157 : decode cL_files 157 = .ok (.bipush (-2), 2) := by decide +kernel
theorem dL_files_159 : decode cL_files 159 = .ok (.goto 16, 3) := by decide +kernel
theorem dL_files_162 : decode cL_files 162 = .ok (.iload 12, 2) := by decide +kernel
theorem dL_files_164 : decode cL_files 164 = .ok (.ifCond .eq 9, 3) := by decide +kernel
theorem dL_files_167 : decode cL_files 167 = .ok (.aload_n 3, 1) := by decide +kernel
theorem dL_files_168 : decode cL_files 168 = .ok (.iconst 2, 1) := by decide +kernel
theorem dL_files_169 : decode cL_files 169 = .ok (.iaload, 1) := by decide +kernel
theorem dL_files_170 : decode cL_files 170 = .ok (.goto 5, 3) := by decide +kernel
theorem dL_files_173 : decode cL_files 173 = .ok (.bipush (-3), 2) := by decide +kernel
theorem dL_files_175 : decode cL_files 175 = .ok (.istore 13, 2) := by decide +kernel
theorem dL_files_177 : decode cL_files 177 = .ok (.iload 13, 2) := by decide +kernel
theorem dL_files_179 : decode cL_files 179 = .ok (.ifCond .lt 119, 3) := by decide +kernel
theorem dL_files_182 : decode cL_files 182 = .ok (.bipush 8, 2) := by decide +kernel
theorem dL_files_184 : decode cL_files 184 = .ok (.aload_n 3, 1) := by decide +kernel
theorem dL_files_185 : decode cL_files 185 = .ok (.iconst 2, 1) := by decide +kernel
theorem dL_files_186 : decode cL_files 186 = .ok (.iaload, 1) := by decide +kernel
theorem dL_files_187 : decode cL_files 187 = .ok (.imul, 1) := by decide +kernel
theorem dL_files_188 : decode cL_files 188 = .ok (.istore 14, 2) := by decide +kernel
theorem dL_files_190 : decode cL_files 190 = .ok (.aload 7, 2) := by decide +kernel
theorem dL_files_192 : decode cL_files 192 = .ok (.iload 14, 2) := by decide +kernel
theorem dL_files_194 : decode cL_files 194 = .ok (.iload 9, 2) := by decide +kernel
theorem dL_files_196 : decode cL_files 196 = .ok (.iload 10, 2) := by decide +kernel
theorem dL_files_198 : decode cL_files 198 = .ok (.if_icmp .ge 8, 3) := by decide +kernel
theorem dL_files_201 : decode cL_files 201 = .ok (.iload 9, 2) := by decide +kernel
theorem dL_files_203 : decode cL_files 203 = .ok (.goto 5, 3) := by decide +kernel
theorem dL_files_206 : decode cL_files 206 = .ok (.iload 10, 2) := by decide +kernel
theorem dL_files_208 : decode cL_files 208 = .ok (.iastore, 1) := by decide +kernel
theorem dL_files_209 : decode cL_files 209 = .ok (.aload 7, 2) := by decide +kernel
theorem dL_files_211 : decode cL_files 211 = .ok (.iload 14, 2) := by decide +kernel
theorem dL_files_213 : decode cL_files 213 = .ok (.iconst 1, 1) := by decide +kernel
theorem dL_files_214 : decode cL_files 214 = .ok (.iadd, 1) := by decide +kernel
theorem dL_files_215 : decode cL_files 215 = .ok (.iload 9, 2) := by decide +kernel
theorem dL_files_217 : decode cL_files 217 = .ok (.iload 10, 2) := by decide +kernel
theorem dL_files_219 : decode cL_files 219 = .ok (.if_icmp .ge 8, 3) := by decide +kernel
theorem dL_files_222 : decode cL_files 222 = .ok (.iload 10, 2) := by decide +kernel
theorem dL_files_224 : decode cL_files 224 = .ok (.goto 5, 3) := by decide +kernel
theorem dL_files_227 : decode cL_files 227 = .ok (.iload 9, 2) := by decide +kernel
theorem dL_files_229 : decode cL_files 229 = .ok (.iastore, 1) := by decide +kernel
theorem dL_files_230 : decode cL_files 230 = .ok (.iconst 0, 1) := by decide +kernel
theorem dL_files_231 : decode cL_files 231 = .ok (.istore 15, 2) := by decide +kernel
theorem dL_files_233 : decode cL_files 233 = .ok (.iload 15, 2) := by decide +kernel
theorem dL_files_235 : decode cL_files 235 = .ok (.aload_n 3, 1) := by decide +kernel
theorem dL_files_236 : decode cL_files 236 = .ok (.iconst 0, 1) := by decide +kernel
theorem dL_files_237 : decode cL_files 237 = .ok (.iaload, 1) := by decide +kernel
theorem dL_files_238 : decode cL_files 238 = .ok (.if_icmp .ge 45, 3) := by decide +kernel
theorem dL_files_241 : decode cL_files 241 = .ok (.aload 7, 2) := by decide +kernel
theorem dL_files_243 : decode cL_files 243 = .ok (.iload 14, 2) := by decide +kernel
theorem dL_files_245 : decode cL_files 245 = .ok (.iconst 2, 1) := by decide +kernel
theorem dL_files_246 : decode cL_files 246 = .ok (.iadd, 1) := by decide +kernel
theorem dL_files_247 : decode cL_files 247 = .ok (.dup2, 1) := by decide +kernel
theorem dL_files_248 : decode cL_files 248 = .ok (.iaload, 1) := by decide +kernel
theorem dL_files_249 : decode cL_files 249 = .ok (.iload 15, 2) := by decide +kernel
theorem dL_files_251 : decode cL_files 251 = .ok (.iload 9, 2) := by decide +kernel
theorem dL_files_253 : decode cL_files 253 = .ok (.iload 10, 2) := by decide +kernel
theorem dL_files_255 : decode cL_files 255 = .ok (.aload 4, 2) := by decide +kernel
theorem dL_files_257 : decode cL_files 257 = .ok (.aload 5, 2) := by decide +kernel
theorem dL_files_259 : decode cL_files 259 = .ok (.aload 6, 2) := by decide +kernel
theorem dL_files_261 : decode cL_files 261 = .ok (.invokestatic 47, 3) := by decide +kernel
theorem dL_files_264 : decode cL_files 264 = .ok (.ifCond .le 10, 3) := by decide +kernel
theorem dL_files_267 : decode cL_files 267 = .ok (.iconst 1, 1) := by decide +kernel
theorem dL_files_268 : decode cL_files 268 = .ok (.iload 15, 2) := by decide +kernel
theorem dL_files_270 : decode cL_files 270 = .ok (.ishl, 1) := by decide +kernel
theorem dL_files_271 : decode cL_files 271 = .ok (.goto 4, 3) := by decide +kernel
theorem dL_files_274 : decode cL_files 274 = .ok (.iconst 0, 1) := by decide +kernel
theorem dL_files_275 : decode cL_files 275 = .ok (.ior, 1) := by decide +kernel
theorem dL_files_276 : decode cL_files 276 = .ok (.iastore, 1) := by decide +kernel
theorem dL_files_277 : decode cL_files 277 = .ok (.iinc 15 1, 3) := by decide +kernel
theorem dL_files_280 : decode cL_files 280 = .ok (.goto (-47), 3) := by decide +kernel
theorem dL_files_283 : decode cL_files 283 = .ok (.aload 7, 2) := by decide +kernel
theorem dL_files_285 : decode cL_files 285 = .ok (.iload 14, 2) := by decide +kernel
theorem dL_files_287 : decode cL_files 287 = .ok (.iconst 4, 1) := by decide +kernel
theorem dL_files_288 : decode cL_files 288 = .ok (.iadd, 1) := by decide +kernel
theorem dL_files_289 : decode cL_files 289 = .ok (.iconst (-1), 1) := by decide +kernel
theorem dL_files_290 : decode cL_files 290 = .ok (.iastore, 1) := by decide +kernel
theorem dL_files_291 : decode cL_files 291 = .ok (.aload_n 3, 1) := by decide +kernel
theorem dL_files_292 : decode cL_files 292 = .ok (.iconst 2, 1) := by decide +kernel
theorem dL_files_293 : decode cL_files 293 = .ok (.dup2, 1) := by decide +kernel
theorem dL_files_294 : decode cL_files 294 = .ok (.iaload, 1) := by decide +kernel
theorem dL_files_295 : decode cL_files 295 = .ok (.iconst 1, 1) := by decide +kernel
theorem dL_files_296 : decode cL_files 296 = .ok (.iadd, 1) := by decide +kernel
theorem dL_files_297 : decode cL_files 297 = .ok (.iastore, 1) := by decide +kernel
theorem dL_files_298 : decode cL_files 298 = .ok (.aload_n 0, 1) := by decide +kernel
theorem dL_files_299 : decode cL_files 299 = .ok (.iconst 4, 1) := by decide +kernel
theorem dL_files_300 : decode cL_files 300 = .ok (.iload 9, 2) := by decide +kernel
theorem dL_files_302 : decode cL_files 302 = .ok (.iload 10, 2) := by decide +kernel
theorem dL_files_304 : decode cL_files 304 = .ok (.iconst 0, 1) := by decide +kernel
theorem dL_files_305 : decode cL_files 305 = .ok (.invokestatic 91, 3) := by decide +kernel
theorem dL_files_308 : decode cL_files 308 = .ok (.iload 13, 2) := by decide +kernel
theorem dL_files_310 : decode cL_files 310 = .ok (.if_icmp .ne 7, 3) := by decide +kernel
theorem dL_files_313 : decode cL_files 313 = .ok (.iconst 1, 1) := by decide +kernel
theorem dL_files_314 : decode cL_files 314 = .ok (.goto 4, 3) := by decide +kernel
theorem dL_files_317 : decode cL_files 317 = .ok (.iconst 0, 1) := by decide +kernel
theorem dL_files_318 : decode cL_files 318 = .ok (.ireturn, 1) := by decide +kernel
theorem dL_files_319 : decode cL_files 319 = .ok (.iload_n 2, 1) := by decide +kernel
theorem dL_files_320 : decode cL_files 320 = .ok (.aload_n 3, 1) := by decide +kernel
theorem dL_files_321 : decode cL_files 321 = .ok (.iconst 2, 1) := by decide +kernel
theorem dL_files_322 : decode cL_files 322 = .ok (.iaload, 1) := by decide +kernel
theorem dL_files_323 : decode cL_files 323 = .ok (.invokestatic 87, 3) := by decide +kernel
theorem dL_files_326 : decode cL_files 326 = .ok (.istore 9, 2) := by decide +kernel
theorem dL_files_328 : decode cL_files 328 = .ok (.aload 7, 2) := by decide +kernel
theorem dL_files_330 : decode cL_files 330 = .ok (.bipush 8, 2) := by decide +kernel
theorem dL_files_332 : decode cL_files 332 = .ok (.iload 9, 2) := by decide +kernel
theorem dL_files_334 : decode cL_files 334 = .ok (.imul, 1) := by decide +kernel
theorem dL_files_335 : decode cL_files 335 = .ok (.bipush 7, 2) := by decide +kernel
theorem dL_files_337 : decode cL_files 337 = .ok (.iadd, 1) := by decide +kernel
theorem dL_files_338 : decode cL_files 338 = .ok (.iaload, 1) := by decide +kernel
theorem dL_files_339 : decode cL_files 339 = .ok (.iconst 1, 1) := by decide +kernel
theorem dL_files_340 : decode cL_files 340 = .ok (.if_icmp .ne 7, 3) := by decide +kernel
theorem dL_files_343 : decode cL_files 343 = .ok (.iconst 1, 1) := by decide +kernel
theorem dL_files_344 : decode cL_files 344 = .ok (.goto 4, 3) := by decide +kernel
theorem dL_files_347 : decode cL_files 347 = .ok (.iconst 0, 1) := by decide +kernel
theorem dL_files_348 : decode cL_files 348 = .ok (.istore 10, 2) := by decide +kernel
theorem dL_files_350 : decode cL_files 350 = .ok (.iload_n 1, 1) := by decide +kernel
theorem dL_files_351 : decode cL_files 351 = .ok (.iconst 4, 1) := by decide +kernel
theorem dL_files_352 : decode cL_files 352 = .ok (.if_icmp .ge 209, 3) := by decide +kernel
theorem dL_files_355 : decode cL_files 355 = .ok (.iload_n 2, 1) := by decide +kernel
theorem dL_files_356 : decode cL_files 356 = .ok (.iconst 4, 1) := by decide +kernel
theorem dL_files_357 : decode cL_files 357 = .ok (.ishr, 1) := by decide +kernel
theorem dL_files_358 : decode cL_files 358 = .ok (.iconst 2, 1) := by decide +kernel
theorem dL_files_359 : decode cL_files 359 = .ok (.invokestatic 87, 3) := by decide +kernel
theorem dL_files_362 : decode cL_files 362 = .ok (.istore 11, 2) := by decide +kernel
theorem dL_files_364 : decode cL_files 364 = .ok (.iload_n 2, 1) := by decide +kernel
theorem dL_files_365 : decode cL_files 365 = .ok (.bipush 6, 2) := by decide +kernel
theorem dL_files_367 : decode cL_files 367 = .ok (.ishr, 1) := by decide +kernel
theorem dL_files_368 : decode cL_files 368 = .ok (.aload_n 3, 1) := by decide +kernel
theorem dL_files_369 : decode cL_files 369 = .ok (.iconst 0, 1) := by decide +kernel
theorem dL_files_370 : decode cL_files 370 = .ok (.iaload, 1) := by decide +kernel
theorem dL_files_371 : decode cL_files 371 = .ok (.invokestatic 87, 3) := by decide +kernel
theorem dL_files_374 : decode cL_files 374 = .ok (.istore 12, 2) := by decide +kernel
theorem dL_files_376 : decode cL_files 376 = .ok (.iload 10, 2) := by decide +kernel
theorem dL_files_378 : decode cL_files 378 = .ok (.ifCond .ne 44, 3) := by decide +kernel
theorem dL_files_381 : decode cL_files 381 = .ok (.aload 7, 2) := by decide +kernel
theorem dL_files_383 : decode cL_files 383 = .ok (.bipush 8, 2) := by decide +kernel
theorem dL_files_385 : decode cL_files 385 = .ok (.iload 9, 2) := by decide +kernel
theorem dL_files_387 : decode cL_files 387 = .ok (.imul, 1) := by decide +kernel
theorem dL_files_388 : decode cL_files 388 = .ok (.iconst 2, 1) := by decide +kernel
theorem dL_files_389 : decode cL_files 389 = .ok (.iadd, 1) := by decide +kernel
theorem dL_files_390 : decode cL_files 390 = .ok (.iaload, 1) := by decide +kernel
theorem dL_files_391 : decode cL_files 391 = .ok (.iload 12, 2) := by decide +kernel
theorem dL_files_393 : decode cL_files 393 = .ok (.ishr, 1) := by decide +kernel
theorem dL_files_394 : decode cL_files 394 = .ok (.iconst 1, 1) := by decide +kernel
theorem dL_files_395 : decode cL_files 395 = .ok (.iand, 1) := by decide +kernel
theorem dL_files_396 : decode cL_files 396 = .ok (.iconst 1, 1) := by decide +kernel
theorem dL_files_397 : decode cL_files 397 = .ok (.if_icmp .ne 25, 3) := by decide +kernel
theorem dL_files_400 : decode cL_files 400 = .ok (.aload 7, 2) := by decide +kernel
theorem dL_files_402 : decode cL_files 402 = .ok (.bipush 8, 2) := by decide +kernel
theorem dL_files_404 : decode cL_files 404 = .ok (.iload 9, 2) := by decide +kernel
theorem dL_files_406 : decode cL_files 406 = .ok (.imul, 1) := by decide +kernel
theorem dL_files_407 : decode cL_files 407 = .ok (.iconst 3, 1) := by decide +kernel
theorem dL_files_408 : decode cL_files 408 = .ok (.iadd, 1) := by decide +kernel
theorem dL_files_409 : decode cL_files 409 = .ok (.iaload, 1) := by decide +kernel
theorem dL_files_410 : decode cL_files 410 = .ok (.iload 12, 2) := by decide +kernel
theorem dL_files_412 : decode cL_files 412 = .ok (.ishr, 1) := by decide +kernel
theorem dL_files_413 : decode cL_files 413 = .ok (.iconst 1, 1) := by decide +kernel
theorem dL_files_414 : decode cL_files 414 = .ok (.iand, 1) := by decide +kernel
theorem dL_files_415 : decode cL_files 415 = .ok (.ifCond .ne 7, 3) := by decide +kernel
theorem dL_files_418 : decode cL_files 418 = .ok (.iconst 1, 1) := by decide +kernel
theorem dL_files_419 : decode cL_files 419 = .ok (.goto 4, 3) := by decide +kernel
theorem dL_files_422 : decode cL_files 422 = .ok (.iconst 0, 1) := by decide +kernel
theorem dL_files_423 : decode cL_files 423 = .ok (.istore 13, 2) := by decide +kernel
theorem dL_files_425 : decode cL_files 425 = .ok (.iload 13, 2) := by decide +kernel
theorem dL_files_427 : decode cL_files 427 = .ok (.ifCond .eq 84, 3) := by decide +kernel
theorem dL_files_430 : decode cL_files 430 = .ok (.aload 7, 2) := by decide +kernel
theorem dL_files_432 : decode cL_files 432 = .ok (.bipush 8, 2) := by decide +kernel
theorem dL_files_434 : decode cL_files 434 = .ok (.iload 9, 2) := by decide +kernel
theorem dL_files_436 : decode cL_files 436 = .ok (.imul, 1) := by decide +kernel
theorem dL_files_437 : decode cL_files 437 = .ok (.iconst 3, 1) := by decide +kernel
theorem dL_files_438 : decode cL_files 438 = .ok (.iadd, 1) := by decide +kernel
theorem dL_files_439 : decode cL_files 439 = .ok (.dup2, 1) := by decide +kernel
theorem dL_files_440 : decode cL_files 440 = .ok (.iaload, 1) := by decide +kernel
theorem dL_files_441 : decode cL_files 441 = .ok (.iconst 1, 1) := by decide +kernel
theorem dL_files_442 : decode cL_files 442 = .ok (.iload 12, 2) := by decide +kernel
theorem dL_files_444 : decode cL_files 444 = .ok (.ishl, 1) := by decide +kernel
theorem dL_files_445 : decode cL_files 445 = .ok (.ior, 1) := by decide +kernel
theorem dL_files_446 : decode cL_files 446 = .ok (.iastore, 1) := by decide +kernel
theorem dL_files_447 : decode cL_files 447 = .ok (.aload 7, 2) := by decide +kernel
theorem dL_files_449 : decode cL_files 449 = .ok (.bipush 8, 2) := by decide +kernel
theorem dL_files_451 : decode cL_files 451 = .ok (.iload 9, 2) := by decide +kernel
theorem dL_files_453 : decode cL_files 453 = .ok (.imul, 1) := by decide +kernel
theorem dL_files_454 : decode cL_files 454 = .ok (.iconst 4, 1) := by decide +kernel
theorem dL_files_455 : decode cL_files 455 = .ok (.iadd, 1) := by decide +kernel
theorem dL_files_456 : decode cL_files 456 = .ok (.aload 7, 2) := by decide +kernel
theorem dL_files_458 : decode cL_files 458 = .ok (.bipush 8, 2) := by decide +kernel
theorem dL_files_460 : decode cL_files 460 = .ok (.iload 9, 2) := by decide +kernel
theorem dL_files_462 : decode cL_files 462 = .ok (.imul, 1) := by decide +kernel
theorem dL_files_463 : decode cL_files 463 = .ok (.iconst 4, 1) := by decide +kernel
theorem dL_files_464 : decode cL_files 464 = .ok (.iadd, 1) := by decide +kernel
theorem dL_files_465 : decode cL_files 465 = .ok (.iaload, 1) := by decide +kernel
theorem dL_files_466 : decode cL_files 466 = .ok (.ifCond .ge 17, 3) := by decide +kernel
theorem dL_files_469 : decode cL_files 469 = .ok (.aload 7, 2) := by decide +kernel
theorem dL_files_471 : decode cL_files 471 = .ok (.bipush 8, 2) := by decide +kernel
theorem dL_files_473 : decode cL_files 473 = .ok (.iload 9, 2) := by decide +kernel
theorem dL_files_475 : decode cL_files 475 = .ok (.imul, 1) := by decide +kernel
theorem dL_files_476 : decode cL_files 476 = .ok (.iload 11, 2) := by decide +kernel
theorem dL_files_478 : decode cL_files 478 = .ok (.iadd, 1) := by decide +kernel
theorem dL_files_479 : decode cL_files 479 = .ok (.iaload, 1) := by decide +kernel
theorem dL_files_480 : decode cL_files 480 = .ok (.goto 13, 3) := by decide +kernel
theorem dL_files_483 : decode cL_files 483 = .ok (.aload 7, 2) := by decide +kernel
theorem dL_files_485 : decode cL_files 485 = .ok (.bipush 8, 2) := by decide +kernel
theorem dL_files_487 : decode cL_files 487 = .ok (.iload 9, 2) := by decide +kernel
theorem dL_files_489 : decode cL_files 489 = .ok (.imul, 1) := by decide +kernel
theorem dL_files_490 : decode cL_files 490 = .ok (.iconst 4, 1) := by decide +kernel
theorem dL_files_491 : decode cL_files 491 = .ok (.iadd, 1) := by decide +kernel
theorem dL_files_492 : decode cL_files 492 = .ok (.iaload, 1) := by decide +kernel
theorem dL_files_493 : decode cL_files 493 = .ok (.iastore, 1) := by decide +kernel
theorem dL_files_494 : decode cL_files 494 = .ok (.aload 7, 2) := by decide +kernel
theorem dL_files_496 : decode cL_files 496 = .ok (.bipush 8, 2) := by decide +kernel
theorem dL_files_498 : decode cL_files 498 = .ok (.iload 9, 2) := by decide +kernel
theorem dL_files_500 : decode cL_files 500 = .ok (.imul, 1) := by decide +kernel
theorem dL_files_501 : decode cL_files 501 = .ok (.iconst 5, 1) := by decide +kernel
theorem dL_files_502 : decode cL_files 502 = .ok (.iadd, 1) := by decide +kernel
theorem dL_files_503 : decode cL_files 503 = .ok (.iload 11, 2) := by decide +kernel
theorem dL_files_505 : decode cL_files 505 = .ok (.iadd, 1) := by decide +kernel
theorem dL_files_506 : decode cL_files 506 = .ok (.dup2, 1) := by decide +kernel
theorem dL_files_507 : decode cL_files 507 = .ok (.iaload, 1) := by decide +kernel
theorem dL_files_508 : decode cL_files 508 = .ok (.iconst 1, 1) := by decide +kernel
theorem dL_files_509 : decode cL_files 509 = .ok (.iadd, 1) := by decide +kernel
theorem dL_files_510 : decode cL_files 510 = .ok (.iastore, 1) := by decide +kernel
theorem dL_files_511 : decode cL_files 511 = .ok (.aload_n 0, 1) := by decide +kernel
theorem dL_files_512 : decode cL_files 512 = .ok (.bipush 6, 2) := by decide +kernel
theorem dL_files_514 : decode cL_files 514 = .ok (.iload 9, 2) := by decide +kernel
theorem dL_files_516 : decode cL_files 516 = .ok (.aload 7, 2) := by decide +kernel
theorem dL_files_518 : decode cL_files 518 = .ok (.bipush 8, 2) := by decide +kernel
theorem dL_files_520 : decode cL_files 520 = .ok (.iload 9, 2) := by decide +kernel
theorem dL_files_522 : decode cL_files 522 = .ok (.imul, 1) := by decide +kernel
theorem dL_files_523 : decode cL_files 523 = .ok (.iload 11, 2) := by decide +kernel
theorem dL_files_525 : decode cL_files 525 = .ok (.iadd, 1) := by decide +kernel
theorem dL_files_526 : decode cL_files 526 = .ok (.iaload, 1) := by decide +kernel
theorem dL_files_527 : decode cL_files 527 = .ok (.iload 12, 2) := by decide +kernel
theorem dL_files_529 : decode cL_files 529 = .ok (.invokestatic 91, 3) := by decide +kernel
theorem dL_files_532 : decode cL_files 532 = .ok (.iload 10, 2) := by decide +kernel
theorem dL_files_534 : decode cL_files 534 = .ok (.ifCond .eq 8, 3) := by decide +kernel
theorem dL_files_537 : decode cL_files 537 = .ok (.bipush (-3), 2) := by decide +kernel
theorem dL_files_539 : decode cL_files 539 = .ok (.goto 13, 3) := by decide +kernel
theorem dL_files_542 : decode cL_files 542 = .ok (.iload 13, 2) := by decide +kernel
theorem dL_files_544 : decode cL_files 544 = .ok (.ifCond .eq 7, 3) := by decide +kernel
theorem dL_files_547 : decode cL_files 547 = .ok (.iconst 1, 1) := by decide +kernel
theorem dL_files_548 : decode cL_files 548 = .ok (.goto 4, 3) := by decide +kernel
theorem dL_files_551 : decode cL_files 551 = .ok (.iconst 0, 1) := by decide +kernel
theorem dL_files_552 : decode cL_files 552 = .ok (.if_icmp .ne 7, 3) := by decide +kernel
theorem dL_files_555 : decode cL_files 555 = .ok (.iconst 1, 1) := by decide +kernel
theorem dL_files_556 : decode cL_files 556 = .ok (.goto 4, 3) := by decide +kernel
theorem dL_files_559 : decode cL_files 559 = .ok (.iconst 0, 1) := by decide +kernel
theorem dL_files_560 : decode cL_files 560 = .ok (.ireturn, 1) := by decide +kernel
theorem dL_files_561 : decode cL_files 561 = .ok (.bipush (-3), 2) := by decide +kernel
theorem dL_files_563 : decode cL_files 563 = .ok (.istore 11, 2) := by decide +kernel
theorem dL_files_565 : decode cL_files 565 = .ok (.iload 10, 2) := by decide +kernel
theorem dL_files_567 : decode cL_files 567 = .ok (.ifCond .ne 76, 3) := by decide +kernel
theorem dL_files_570 : decode cL_files 570 = .ok (.aload 7, 2) := by decide +kernel
theorem dL_files_572 : decode cL_files 572 = .ok (.bipush 8, 2) := by decide +kernel
theorem dL_files_574 : decode cL_files 574 = .ok (.iload 9, 2) := by decide +kernel
theorem dL_files_576 : decode cL_files 576 = .ok (.imul, 1) := by decide +kernel
theorem dL_files_577 : decode cL_files 577 = .ok (.bipush 7, 2) := by decide +kernel
theorem dL_files_579 : decode cL_files 579 = .ok (.iadd, 1) := by decide +kernel
theorem dL_files_580 : decode cL_files 580 = .ok (.iconst 1, 1) := by decide +kernel
theorem dL_files_581 : decode cL_files 581 = .ok (.iastore, 1) := by decide +kernel
theorem dL_files_582 : decode cL_files 582 = .ok (.aload 8, 2) := by decide +kernel
theorem dL_files_584 : decode cL_files 584 = .ok (.iconst 2, 1) := by decide +kernel
theorem dL_files_585 : decode cL_files 585 = .ok (.iload 9, 2) := by decide +kernel
theorem dL_files_587 : decode cL_files 587 = .ok (.imul, 1) := by decide +kernel
theorem dL_files_588 : decode cL_files 588 = .ok (.iload 9, 2) := by decide +kernel
theorem dL_files_590 : decode cL_files 590 = .ok (.iconst 0, 1) := by decide +kernel
theorem dL_files_591 : decode cL_files 591 = .ok (.aload_n 3, 1) := by decide +kernel
theorem dL_files_592 : decode cL_files 592 = .ok (.aload 4, 2) := by decide +kernel
theorem dL_files_594 : decode cL_files 594 = .ok (.aload 5, 2) := by decide +kernel
theorem dL_files_596 : decode cL_files 596 = .ok (.aload 7, 2) := by decide +kernel
theorem dL_files_598 : decode cL_files 598 = .ok (.invokestatic 95, 3) := by decide +kernel
theorem dL_files_601 : decode cL_files 601 = .ok (.iastore, 1) := by decide +kernel
theorem dL_files_602 : decode cL_files 602 = .ok (.aload 8, 2) := by decide +kernel
theorem dL_files_604 : decode cL_files 604 = .ok (.iconst 2, 1) := by decide +kernel
theorem dL_files_605 : decode cL_files 605 = .ok (.iload 9, 2) := by decide +kernel
theorem dL_files_607 : decode cL_files 607 = .ok (.imul, 1) := by decide +kernel
theorem dL_files_608 : decode cL_files 608 = .ok (.iconst 1, 1) := by decide +kernel
theorem dL_files_609 : decode cL_files 609 = .ok (.iadd, 1) := by decide +kernel
theorem dL_files_610 : decode cL_files 610 = .ok (.iload 9, 2) := by decide +kernel
theorem dL_files_612 : decode cL_files 612 = .ok (.iconst 1, 1) := by decide +kernel
theorem dL_files_613 : decode cL_files 613 = .ok (.aload_n 3, 1) := by decide +kernel
theorem dL_files_614 : decode cL_files 614 = .ok (.aload 4, 2) := by decide +kernel
theorem dL_files_616 : decode cL_files 616 = .ok (.aload 5, 2) := by decide +kernel
theorem dL_files_618 : decode cL_files 618 = .ok (.aload 7, 2) := by decide +kernel
theorem dL_files_620 : decode cL_files 620 = .ok (.invokestatic 95, 3) := by decide +kernel
theorem dL_files_623 : decode cL_files 623 = .ok (.iastore, 1) := by decide +kernel
theorem dL_files_624 : decode cL_files 624 = .ok (.aload 8, 2) := by decide +kernel
theorem dL_files_626 : decode cL_files 626 = .ok (.iconst 2, 1) := by decide +kernel
theorem dL_files_627 : decode cL_files 627 = .ok (.iload 9, 2) := by decide +kernel
theorem dL_files_629 : decode cL_files 629 = .ok (.imul, 1) := by decide +kernel
theorem dL_files_630 : decode cL_files 630 = .ok (.iaload, 1) := by decide +kernel
theorem dL_files_631 : decode cL_files 631 = .ok (.aload 8, 2) := by decide +kernel
theorem dL_files_633 : decode cL_files 633 = .ok (.iconst 2, 1) := by decide +kernel
theorem dL_files_634 : decode cL_files 634 = .ok (.iload 9, 2) := by decide +kernel
theorem dL_files_636 : decode cL_files 636 = .ok (.imul, 1) := by decide +kernel
theorem dL_files_637 : decode cL_files 637 = .ok (.iconst 1, 1) := by decide +kernel
theorem dL_files_638 : decode cL_files 638 = .ok (.iadd, 1) := by decide +kernel
theorem dL_files_639 : decode cL_files 639 = .ok (.iaload, 1) := by decide +kernel
theorem dL_files_640 : decode cL_files 640 = .ok (.iadd, 1) := by decide +kernel
theorem dL_files_641 : decode cL_files 641 = .ok (.istore 11, 2) := by decide +kernel
theorem dL_files_643 : decode cL_files 643 = .ok (.aload_n 0, 1) := by decide +kernel
theorem dL_files_644 : decode cL_files 644 = .ok (.iconst 5, 1) := by decide +kernel
theorem dL_files_645 : decode cL_files 645 = .ok (.iload 9, 2) := by decide +kernel
theorem dL_files_647 : decode cL_files 647 = .ok (.iconst 0, 1) := by decide +kernel
theorem dL_files_648 : decode cL_files 648 = .ok (.iconst 0, 1) := by decide +kernel
theorem dL_files_649 : decode cL_files 649 = .ok (.invokestatic 91, 3) := by decide +kernel
theorem dL_files_652 : decode cL_files 652 = .ok (.iload 11, 2) := by decide +kernel
theorem dL_files_654 : decode cL_files 654 = .ok (.if_icmp .ne 7, 3) := by decide +kernel
theorem dL_files_657 : decode cL_files 657 = .ok (.iconst 1, 1) := by decide +kernel
theorem dL_files_658 : decode cL_files 658 = .ok (.goto 4, 3) := by decide +kernel
theorem dL_files_661 : decode cL_files 661 = .ok (.iconst 0, 1) := by decide +kernel
theorem dL_files_662 : decode cL_files 662 = .ok (.ireturn, 1) := by decide +kernel
set_option maxRecDepth 20000 in
theorem ggL_law_X2_init : GoodIn wsL_law wsX2_init := goodIn_r _ [7, 8, 9, 10, 11, 12, 13, 14, 15, 16, 3, 17, 18, 329, 330, 331, 332, 333, 334] (by decide +kernel) (by decide +kernel)
set_option maxRecDepth 20000 in
theorem gL_law_X2_init : GoodIn wsL_law (wsX2_init) := ggL_law_X2_init
set_option maxRecDepth 20000 in
theorem ggL_law_L_cell : GoodIn wsL_law wsL_cell := goodIn_r _ [22, 23, 24] (by decide +kernel) (by decide +kernel)
set_option maxRecDepth 20000 in
theorem gL_law_L_cell : GoodIn wsL_law (va_wsS RL 98 yL_cell wsL_cell) := goodIn_app (goodIn_of _ (by decide +kernel)) ggL_law_L_cell
set_option maxRecDepth 20000 in
theorem ggL_law_L_low : GoodIn wsL_law wsL_low := goodIn_r _ [27, 28] (by decide +kernel) (by decide +kernel)
set_option maxRecDepth 20000 in
theorem gL_law_L_low : GoodIn wsL_law (va_wsS RL 87 yL_low wsL_low) := goodIn_app (goodIn_of _ (by decide +kernel)) ggL_law_L_low
set_option maxRecDepth 20000 in
theorem ggL_law_X2_open : GoodIn wsL_law wsX2_open := goodIn_ca (goodIn_r _ [32, 33, 34, 13, 12, 11, 35, 36, 37, 38, 39, 9, 10, 3, 40, 41, 42, 43, 44, 45, 46, 329, 330, 331, 332, 333, 334, 335, 336, 337, 338, 339, 340] (by decide +kernel) (by decide +kernel)) (goodIn_sub (fun _ h => List.mem_append_left _ (List.mem_append_left _ (List.mem_append_right _ h))) (by decide +kernel))
set_option maxRecDepth 20000 in
theorem gL_law_X2_open : GoodIn wsL_law (wsV RL 102 RX2 yX2_open wsX2_open) := goodIn_app (goodIn_of _ (by decide +kernel)) ggL_law_X2_open
set_option maxRecDepth 20000 in
theorem ggL_law_L_tenders : GoodIn wsL_law wsL_tenders := goodIn_ca (goodIn_ca (goodIn_ca (goodIn_hd (List.mem_of_getElem? (i := 49) (by rfl)) rfl (goodIn_r _ [4, 25, 26, 21, 27, 28, 50, 51, 52, 53, 54, 55, 56, 57, 58, 59, 60, 2, 61, 62, 63, 64, 65, 33, 34, 66, 67, 68, 69, 12, 70, 71, 72, 73, 74, 75, 76, 77, 78, 79, 36, 80, 43, 81, 82, 83, 84, 40, 85, 86, 87, 88, 89, 90, 91, 92, 93, 94, 95, 96, 42, 97, 98, 99, 100, 101, 102, 103, 104, 105, 106, 107, 108, 109, 110, 111, 112, 113, 114, 115, 116, 117, 44, 118, 119, 120, 121, 122, 123, 124, 125, 126, 127, 128, 129, 130, 131, 132, 133, 134, 45, 135, 136, 137, 138, 46, 139, 140, 141, 142, 16, 15, 18, 14, 143, 144, 145, 146, 147, 148, 149, 150, 151, 152, 153, 154, 155, 156, 157, 158, 159, 160, 161, 162, 163, 164, 165, 166, 167, 168, 169, 170, 171, 172, 173, 174, 175, 176, 177, 178, 179, 180, 181, 182, 183, 184, 185, 186, 9, 10, 41, 187, 3, 188, 189, 190, 191, 192, 193, 194, 195, 196, 197, 198, 199, 200, 201, 202, 203, 204, 205, 206, 207, 208, 209, 210, 211, 212, 213, 214, 215, 216, 217, 218, 219, 220, 17, 221, 222, 223, 224, 225, 226, 227, 228, 229, 230, 231, 232, 233, 234, 235, 236, 237, 238, 239, 240, 241, 242, 243, 244, 245, 246, 247, 248, 249, 250, 251, 252, 329, 330, 331, 332, 333, 334, 335, 336, 337, 338, 339, 340, 341, 342, 343, 344, 345, 346, 347, 348] (by decide +kernel) (by decide +kernel))) (goodIn_sub (fun _ h => List.mem_append_left _ (List.mem_append_right _ h)) (by decide +kernel))) (goodIn_sub (fun _ h => List.mem_append_right _ h) (by decide +kernel))) (goodIn_sub (fun _ h => List.mem_append_left _ (List.mem_append_left _ (List.mem_append_right _ h))) (by decide +kernel))
set_option maxRecDepth 20000 in
theorem gL_law_L_tenders : GoodIn wsL_law (va_wsS RL 105 yL_tenders wsL_tenders) := goodIn_app (goodIn_of _ (by decide +kernel)) ggL_law_L_tenders
set_option maxRecDepth 20000 in
theorem ggL_law_L_files : GoodIn wsL_law wsL_files := goodIn_ca (goodIn_ca (goodIn_ca (goodIn_hd (List.mem_of_getElem? (i := 255) (by rfl)) rfl (goodIn_r _ [25, 26, 21, 27, 28, 256, 257, 258, 259, 260, 261, 50, 51, 52, 53, 54, 55, 56, 57, 58, 59, 60, 2, 61, 62, 63, 64, 65, 33, 34, 66, 67, 68, 69, 12, 70, 71, 72, 73, 74, 75, 76, 77, 78, 79, 36, 80, 43, 81, 82, 83, 84, 40, 85, 86, 87, 88, 89, 90, 91, 92, 93, 94, 95, 96, 42, 97, 98, 99, 100, 101, 102, 103, 104, 105, 106, 107, 108, 109, 110, 111, 112, 113, 114, 115, 116, 117, 44, 118, 119, 120, 121, 122, 123, 124, 125, 126, 127, 128, 129, 130, 131, 132, 133, 134, 45, 135, 136, 137, 138, 46, 139, 140, 141, 142, 16, 15, 18, 14, 143, 144, 145, 146, 147, 148, 149, 150, 151, 152, 153, 154, 155, 156, 157, 158, 159, 160, 161, 162, 163, 164, 165, 166, 167, 168, 169, 170, 171, 172, 173, 174, 175, 176, 177, 178, 179, 180, 181, 182, 183, 184, 185, 186, 9, 10, 41, 187, 3, 188, 189, 190, 191, 192, 193, 194, 195, 196, 197, 198, 199, 200, 201, 202, 203, 204, 205, 206, 207, 208, 209, 210, 211, 212, 213, 214, 215, 216, 217, 218, 219, 220, 17, 221, 222, 223, 224, 225, 226, 227, 228, 229, 230, 231, 232, 233, 234, 235, 236, 237, 238, 239, 240, 241, 242, 243, 244, 245, 246, 247, 248, 249, 250, 251, 252, 262, 263, 264, 265, 266, 267, 268, 269, 270, 329, 330, 331, 332, 333, 334, 335, 336, 337, 338, 339, 340, 341, 342, 343, 344, 345, 346, 347, 348] (by decide +kernel) (by decide +kernel))) (goodIn_sub (fun _ h => List.mem_append_left _ (List.mem_append_right _ h)) (by decide +kernel))) (goodIn_sub (fun _ h => List.mem_append_right _ h) (by decide +kernel))) (goodIn_sub (fun _ h => List.mem_append_left _ (List.mem_append_left _ (List.mem_append_right _ h))) (by decide +kernel))
set_option maxRecDepth 20000 in
theorem gL_law_L_files : GoodIn wsL_law (va_wsS RL 109 yL_files wsL_files) := goodIn_app (goodIn_of _ (by decide +kernel)) ggL_law_L_files
set_option maxRecDepth 20000 in
theorem ggL_law_X2_setMark : GoodIn wsL_law wsX2_setMark := goodIn_ca (goodIn_r _ [274, 64, 65, 18, 329, 330, 331, 332, 333, 334] (by decide +kernel) (by decide +kernel)) (goodIn_sub (fun _ h => List.mem_append_right _ h) (by decide +kernel))
set_option maxRecDepth 20000 in
theorem gL_law_X2_setMark : GoodIn wsL_law (wsV RL 113 RX2 yX2_setMark wsX2_setMark) := goodIn_app (goodIn_of _ (by decide +kernel)) ggL_law_X2_setMark
set_option maxRecDepth 20000 in
theorem ggL_law_X2_compensate : GoodIn wsL_law wsX2_compensate := goodIn_ca (goodIn_r _ [278, 64, 65, 17, 70, 71, 2, 72, 73, 74, 75, 76, 329, 330, 331, 332, 333, 334] (by decide +kernel) (by decide +kernel)) (goodIn_sub (fun _ h => List.mem_append_right _ h) (by decide +kernel))
set_option maxRecDepth 20000 in
theorem gL_law_X2_compensate : GoodIn wsL_law (wsV RL 116 RX2 yX2_compensate wsX2_compensate) := goodIn_app (goodIn_of _ (by decide +kernel)) ggL_law_X2_compensate
set_option maxRecDepth 20000 in
theorem ggL_law_L_isSo : GoodIn wsL_law wsL_isSo := goodIn_ca (goodIn_ca (goodIn_hd (List.mem_of_getElem? (i := 281) (by rfl)) rfl (goodIn_r _ [282, 283, 284, 2, 285, 158, 159, 160, 161, 12, 162, 163, 164, 165, 66, 67, 68, 69, 119, 120, 121, 36, 122, 44, 166, 167, 168, 169, 45, 93, 94, 95, 96, 40, 42, 71, 72, 118, 107, 108, 109, 170, 171, 172, 173, 174, 82, 83, 84, 175, 176, 177, 178, 101, 179, 180, 181, 182, 127, 128, 129, 130, 286, 287, 21, 288, 256, 257, 258, 259, 260, 261, 50, 51, 52, 289, 290, 291, 292, 64, 65, 70, 225, 226, 227, 228, 229, 230, 231, 232, 46, 265, 266, 267, 293, 294, 295, 296, 297, 298, 299, 300, 145, 146, 147, 301, 302, 303, 304, 62, 63, 305, 306, 307, 308, 201, 202, 203, 204, 15, 309, 310, 311, 144, 312, 190, 268, 269, 270, 313, 314, 315, 316, 317, 318, 319, 320, 191, 321, 322, 323, 324, 152, 153, 154, 155, 156, 157, 325, 326, 327, 328, 189, 329, 330, 331, 332, 333, 334, 335, 336, 337, 338, 339, 340, 341, 342, 343, 344, 345, 346, 347, 348] (by decide +kernel) (by decide +kernel))) (goodIn_sub (fun _ h => List.mem_append_right _ h) (by decide +kernel))) (goodIn_sub (fun _ h => List.mem_append_left _ (List.mem_append_right _ h)) (by decide +kernel))
set_option maxRecDepth 20000 in
theorem gL_law_L_isSo : GoodIn wsL_law (va_wsS RL 119 yL_isSo wsL_isSo) := goodIn_app (goodIn_of _ (by decide +kernel)) ggL_law_L_isSo
theorem dL_law_0 : decode cL_law 0 = .ok (.new 11, 3) := by decide +kernel
theorem dL_law_3 : decode cL_law 3 = .ok (.dup, 1) := by decide +kernel
theorem dL_law_4 : decode cL_law 4 = .ok (.invokespecial 97, 3) := by decide +kernel
theorem dL_law_7 : decode cL_law 7 = .ok (.astore_n 1, 1) := by decide +kernel
theorem dL_law_8 : decode cL_law 8 = .ok (.bipush 7, 2) := by decide +kernel
theorem dL_law_10 : decode cL_law 10 = .ok (.newarray .int, 2) := by decide +kernel
theorem dL_law_12 : decode cL_law 12 = .ok (.astore_n 2, 1) := by decide +kernel
theorem dL_law_13 : decode cL_law 13 = .ok (.bipush 32, 2) := by decide +kernel
theorem dL_law_15 : decode cL_law 15 = .ok (.newarray .int, 2) := by decide +kernel
theorem dL_law_17 : decode cL_law 17 = .ok (.astore_n 3, 1) := by decide +kernel
theorem dL_law_18 : decode cL_law 18 = .ok (.bipush 32, 2) := by decide +kernel
theorem dL_law_20 : decode cL_law 20 = .ok (.newarray .int, 2) := by decide +kernel
theorem dL_law_22 : decode cL_law 22 = .ok (.astore 4, 2) := by decide +kernel
theorem dL_law_24 : decode cL_law 24 = .ok (.bipush 8, 2) := by decide +kernel
theorem dL_law_26 : decode cL_law 26 = .ok (.newarray .int, 2) := by decide +kernel
theorem dL_law_28 : decode cL_law 28 = .ok (.astore 5, 2) := by decide +kernel
theorem dL_law_30 : decode cL_law 30 = .ok (.bipush 48, 2) := by decide +kernel
theorem dL_law_32 : decode cL_law 32 = .ok (.newarray .int, 2) := by decide +kernel
theorem dL_law_34 : decode cL_law 34 = .ok (.astore 6, 2) := by decide +kernel
theorem dL_law_36 : decode cL_law 36 = .ok (.bipush 12, 2) := by decide +kernel
theorem dL_law_38 : decode cL_law 38 = .ok (.newarray .int, 2) := by decide +kernel
theorem dL_law_40 : decode cL_law 40 = .ok (.astore 7, 2) := by decide +kernel
theorem dL_law_42 : decode cL_law 42 = .ok (.aload_n 2, 1) := by decide +kernel
theorem dL_law_43 : decode cL_law 43 = .ok (.iconst 1, 1) := by decide +kernel
theorem dL_law_44 : decode cL_law 44 = .ok (.bipush 10, 2) := by decide +kernel
theorem dL_law_46 : decode cL_law 46 = .ok (.iastore, 1) := by decide +kernel
theorem dL_law_47 : decode cL_law 47 = .ok (.iconst 0, 1) := by decide +kernel
theorem dL_law_48 : decode cL_law 48 = .ok (.istore 8, 2) := by decide +kernel
theorem dL_law_50 : decode cL_law 50 = .ok (.iload 8, 2) := by decide +kernel
theorem dL_law_52 : decode cL_law 52 = .ok (.bipush 100, 2) := by decide +kernel
theorem dL_law_54 : decode cL_law 54 = .ok (.if_icmp .ge 325, 3) := by decide +kernel
theorem dL_law_57 : decode cL_law 57 = .ok (.aload_n 0, 1) := by decide +kernel
theorem dL_law_58 : decode cL_law 58 = .ok (.iload 8, 2) := by decide +kernel
theorem dL_law_60 : decode cL_law 60 = .ok (.invokestatic 98, 3) := by decide +kernel
theorem dL_law_63 : decode cL_law 63 = .ok (.istore 9, 2) := by decide +kernel
theorem dL_law_65 : decode cL_law 65 = .ok (.iload 9, 2) := by decide +kernel
theorem dL_law_67 : decode cL_law 67 = .ok (.bipush 20, 2) := by decide +kernel
theorem dL_law_69 : decode cL_law 69 = .ok (.invokestatic 87, 3) := by decide +kernel
theorem dL_law_72 : decode cL_law 72 = .ok (.istore 10, 2) := by decide +kernel
theorem dL_law_74 : decode cL_law 74 = .ok (.iconst 1, 1) := by decide +kernel
theorem dL_law_75 : decode cL_law 75 = .ok (.istore 11, 2) := by decide +kernel
theorem dL_law_77 : decode cL_law 77 = .ok (.aload_n 2, 1) := by decide +kernel
theorem dL_law_78 : decode cL_law 78 = .ok (.iconst 0, 1) := by decide +kernel
theorem dL_law_79 : decode cL_law 79 = .ok (.iaload, 1) := by decide +kernel
theorem dL_law_80 : decode cL_law 80 = .ok (.ifCond .eq 16, 3) := by decide +kernel
theorem dL_law_83 : decode cL_law 83 = .ok (.iload 10, 2) := by decide +kernel
theorem dL_law_85 : decode cL_law 85 = .ok (.ifCond .ne 50, 3) := by decide +kernel
theorem dL_law_88 : decode cL_law 88 = .ok (.aload_n 2, 1) := by decide +kernel
theorem dL_law_89 : decode cL_law 89 = .ok (.iconst 0, 1) := by decide +kernel
theorem dL_law_90 : decode cL_law 90 = .ok (.iaload, 1) := by decide +kernel
theorem dL_law_91 : decode cL_law 91 = .ok (.bipush 8, 2) := by decide +kernel
theorem dL_law_93 : decode cL_law 93 = .ok (.if_icmp .ge 42, 3) := by decide +kernel
theorem dL_law_96 : decode cL_law 96 = .ok (.aload_n 3, 1) := by decide +kernel
theorem dL_law_97 : decode cL_law 97 = .ok (.iconst 4, 1) := by decide +kernel
theorem dL_law_98 : decode cL_law 98 = .ok (.aload_n 2, 1) := by decide +kernel
theorem dL_law_99 : decode cL_law 99 = .ok (.iconst 0, 1) := by decide +kernel
theorem dL_law_100 : decode cL_law 100 = .ok (.iaload, 1) := by decide +kernel
theorem dL_law_101 : decode cL_law 101 = .ok (.imul, 1) := by decide +kernel
theorem dL_law_102 : decode cL_law 102 = .ok (.iconst 2, 1) := by decide +kernel
theorem dL_law_103 : decode cL_law 103 = .ok (.iadd, 1) := by decide +kernel
theorem dL_law_104 : decode cL_law 104 = .ok (.iconst (-1), 1) := by decide +kernel
theorem dL_law_105 : decode cL_law 105 = .ok (.iastore, 1) := by decide +kernel
theorem dL_law_106 : decode cL_law 106 = .ok (.aload_n 2, 1) := by decide +kernel
theorem dL_law_107 : decode cL_law 107 = .ok (.iconst 0, 1) := by decide +kernel
theorem dL_law_108 : decode cL_law 108 = .ok (.dup2, 1) := by decide +kernel
theorem dL_law_109 : decode cL_law 109 = .ok (.iaload, 1) := by decide +kernel
theorem dL_law_110 : decode cL_law 110 = .ok (.iconst 1, 1) := by decide +kernel
theorem dL_law_111 : decode cL_law 111 = .ok (.iadd, 1) := by decide +kernel
theorem dL_law_112 : decode cL_law 112 = .ok (.iastore, 1) := by decide +kernel
theorem dL_law_113 : decode cL_law 113 = .ok (.aload_n 1, 1) := by decide +kernel
theorem dL_law_114 : decode cL_law 114 = .ok (.invokevirtual 102, 3) := by decide +kernel
theorem dL_law_117 : decode cL_law 117 = .ok (.aload_n 2, 1) := by decide +kernel
theorem dL_law_118 : decode cL_law 118 = .ok (.iconst 0, 1) := by decide +kernel
theorem dL_law_119 : decode cL_law 119 = .ok (.iaload, 1) := by decide +kernel
theorem dL_law_120 : decode cL_law 120 = .ok (.iconst 1, 1) := by decide +kernel
theorem dL_law_121 : decode cL_law 121 = .ok (.isub, 1) := by decide +kernel
theorem dL_law_122 : decode cL_law 122 = .ok (.if_icmp .ne 7, 3) := by decide +kernel
theorem dL_law_125 : decode cL_law 125 = .ok (.iconst 1, 1) := by decide +kernel
theorem dL_law_126 : decode cL_law 126 = .ok (.goto 4, 3) := by decide +kernel
theorem dL_law_129 : decode cL_law 129 = .ok (.iconst 0, 1) := by decide +kernel
theorem dL_law_130 : decode cL_law 130 = .ok (.istore 11, 2) := by decide +kernel
theorem dL_law_132 : decode cL_law 132 = .ok (.goto 217, 3) := by decide +kernel
theorem dL_law_135 : decode cL_law 135 = .ok (.iload 10, 2) := by decide +kernel
theorem dL_law_137 : decode cL_law 137 = .ok (.bipush 12, 2) := by decide +kernel
theorem dL_law_139 : decode cL_law 139 = .ok (.if_icmp .ge 51, 3) := by decide +kernel
theorem dL_law_142 : decode cL_law 142 = .ok (.aload_n 1, 1) := by decide +kernel
theorem dL_law_143 : decode cL_law 143 = .ok (.iload 10, 2) := by decide +kernel
theorem dL_law_145 : decode cL_law 145 = .ok (.iconst 1, 1) := by decide +kernel
theorem dL_law_146 : decode cL_law 146 = .ok (.isub, 1) := by decide +kernel
theorem dL_law_147 : decode cL_law 147 = .ok (.ifCond .ge 7, 3) := by decide +kernel
theorem dL_law_150 : decode cL_law 150 = .ok (.iconst 0, 1) := by decide +kernel
theorem dL_law_151 : decode cL_law 151 = .ok (.goto 21, 3) := by decide +kernel
theorem dL_law_154 : decode cL_law 154 = .ok (.iload 10, 2) := by decide +kernel
theorem dL_law_156 : decode cL_law 156 = .ok (.iconst 1, 1) := by decide +kernel
theorem dL_law_157 : decode cL_law 157 = .ok (.isub, 1) := by decide +kernel
theorem dL_law_158 : decode cL_law 158 = .ok (.bipush 8, 2) := by decide +kernel
theorem dL_law_160 : decode cL_law 160 = .ok (.if_icmp .le 8, 3) := by decide +kernel
theorem dL_law_163 : decode cL_law 163 = .ok (.bipush 6, 2) := by decide +kernel
theorem dL_law_165 : decode cL_law 165 = .ok (.goto 7, 3) := by decide +kernel
theorem dL_law_168 : decode cL_law 168 = .ok (.iload 10, 2) := by decide +kernel
theorem dL_law_170 : decode cL_law 170 = .ok (.iconst 1, 1) := by decide +kernel
theorem dL_law_171 : decode cL_law 171 = .ok (.isub, 1) := by decide +kernel
theorem dL_law_172 : decode cL_law 172 = .ok (.iload 9, 2) := by decide +kernel
theorem dL_law_174 : decode cL_law 174 = .ok (.iconst 4, 1) := by decide +kernel
theorem dL_law_175 : decode cL_law 175 = .ok (.ishr, 1) := by decide +kernel
theorem dL_law_176 : decode cL_law 176 = .ok (.aload_n 2, 1) := by decide +kernel
theorem dL_law_177 : decode cL_law 177 = .ok (.aload_n 3, 1) := by decide +kernel
theorem dL_law_178 : decode cL_law 178 = .ok (.aload 4, 2) := by decide +kernel
theorem dL_law_180 : decode cL_law 180 = .ok (.aload 5, 2) := by decide +kernel
theorem dL_law_182 : decode cL_law 182 = .ok (.invokestatic 105, 3) := by decide +kernel
theorem dL_law_185 : decode cL_law 185 = .ok (.istore 11, 2) := by decide +kernel
theorem dL_law_187 : decode cL_law 187 = .ok (.goto 162, 3) := by decide +kernel
theorem dL_law_190 : decode cL_law 190 = .ok (.iload 10, 2) := by decide +kernel
theorem dL_law_192 : decode cL_law 192 = .ok (.bipush 18, 2) := by decide +kernel
theorem dL_law_194 : decode cL_law 194 = .ok (.if_icmp .ge 31, 3) := by decide +kernel
theorem dL_law_197 : decode cL_law 197 = .ok (.aload_n 1, 1) := by decide +kernel
theorem dL_law_198 : decode cL_law 198 = .ok (.iload 10, 2) := by decide +kernel
theorem dL_law_200 : decode cL_law 200 = .ok (.bipush 12, 2) := by decide +kernel
theorem dL_law_202 : decode cL_law 202 = .ok (.isub, 1) := by decide +kernel
theorem dL_law_203 : decode cL_law 203 = .ok (.iload 9, 2) := by decide +kernel
theorem dL_law_205 : decode cL_law 205 = .ok (.iconst 4, 1) := by decide +kernel
theorem dL_law_206 : decode cL_law 206 = .ok (.ishr, 1) := by decide +kernel
theorem dL_law_207 : decode cL_law 207 = .ok (.aload_n 2, 1) := by decide +kernel
theorem dL_law_208 : decode cL_law 208 = .ok (.aload_n 3, 1) := by decide +kernel
theorem dL_law_209 : decode cL_law 209 = .ok (.aload 4, 2) := by decide +kernel
theorem dL_law_211 : decode cL_law 211 = .ok (.aload 5, 2) := by decide +kernel
theorem dL_law_213 : decode cL_law 213 = .ok (.aload 6, 2) := by decide +kernel
theorem dL_law_215 : decode cL_law 215 = .ok (.aload 7, 2) := by decide +kernel
theorem dL_law_217 : decode cL_law 217 = .ok (.invokestatic 109, 3) := by decide +kernel
theorem dL_law_220 : decode cL_law 220 = .ok (.istore 11, 2) := by decide +kernel
theorem dL_law_222 : decode cL_law 222 = .ok (.goto 127, 3) := by decide +kernel
theorem dL_law_225 : decode cL_law 225 = .ok (.iload 10, 2) := by decide +kernel
theorem dL_law_227 : decode cL_law 227 = .ok (.bipush 18, 2) := by decide +kernel
theorem dL_law_229 : decode cL_law 229 = .ok (.if_icmp .ne 44, 3) := by decide +kernel
theorem dL_law_232 : decode cL_law 232 = .ok (.aload_n 2, 1) := by decide +kernel
theorem dL_law_233 : decode cL_law 233 = .ok (.iconst 1, 1) := by decide +kernel
theorem dL_law_234 : decode cL_law 234 = .ok (.iaload, 1) := by decide +kernel
theorem dL_law_235 : decode cL_law 235 = .ok (.istore 12, 2) := by decide +kernel
theorem dL_law_237 : decode cL_law 237 = .ok (.aload_n 2, 1) := by decide +kernel
theorem dL_law_238 : decode cL_law 238 = .ok (.iconst 1, 1) := by decide +kernel
theorem dL_law_239 : decode cL_law 239 = .ok (.iconst 1, 1) := by decide +kernel
theorem dL_law_240 : decode cL_law 240 = .ok (.iload 9, 2) := by decide +kernel
theorem dL_law_242 : decode cL_law 242 = .ok (.iconst 5, 1) := by decide +kernel
theorem dL_law_243 : decode cL_law 243 = .ok (.ishr, 1) := by decide +kernel
theorem dL_law_244 : decode cL_law 244 = .ok (.bipush 12, 2) := by decide +kernel
theorem dL_law_246 : decode cL_law 246 = .ok (.invokestatic 87, 3) := by decide +kernel
theorem dL_law_249 : decode cL_law 249 = .ok (.iadd, 1) := by decide +kernel
theorem dL_law_250 : decode cL_law 250 = .ok (.iastore, 1) := by decide +kernel
theorem dL_law_251 : decode cL_law 251 = .ok (.aload_n 1, 1) := by decide +kernel
theorem dL_law_252 : decode cL_law 252 = .ok (.aload_n 2, 1) := by decide +kernel
theorem dL_law_253 : decode cL_law 253 = .ok (.iconst 1, 1) := by decide +kernel
theorem dL_law_254 : decode cL_law 254 = .ok (.iaload, 1) := by decide +kernel
theorem dL_law_255 : decode cL_law 255 = .ok (.invokevirtual 113, 3) := by decide +kernel
theorem dL_law_258 : decode cL_law 258 = .ok (.iload 12, 2) := by decide +kernel
theorem dL_law_260 : decode cL_law 260 = .ok (.if_icmp .ne 7, 3) := by decide +kernel
theorem dL_law_263 : decode cL_law 263 = .ok (.iconst 1, 1) := by decide +kernel
theorem dL_law_264 : decode cL_law 264 = .ok (.goto 4, 3) := by decide +kernel
theorem dL_law_267 : decode cL_law 267 = .ok (.iconst 0, 1) := by decide +kernel
theorem dL_law_268 : decode cL_law 268 = .ok (.istore 11, 2) := by decide +kernel
theorem dL_law_270 : decode cL_law 270 = .ok (.goto 79, 3) := by decide +kernel
theorem dL_law_273 : decode cL_law 273 = .ok (.iload 9, 2) := by decide +kernel
theorem dL_law_275 : decode cL_law 275 = .ok (.iconst 5, 1) := by decide +kernel
theorem dL_law_276 : decode cL_law 276 = .ok (.ishr, 1) := by decide +kernel
theorem dL_law_277 : decode cL_law 277 = .ok (.iconst 4, 1) := by decide +kernel
theorem dL_law_278 : decode cL_law 278 = .ok (.invokestatic 87, 3) := by decide +kernel
theorem dL_law_281 : decode cL_law 281 = .ok (.istore 12, 2) := by decide +kernel
theorem dL_law_283 : decode cL_law 283 = .ok (.iconst 1, 1) := by decide +kernel
theorem dL_law_284 : decode cL_law 284 = .ok (.iload 9, 2) := by decide +kernel
theorem dL_law_286 : decode cL_law 286 = .ok (.bipush 7, 2) := by decide +kernel
theorem dL_law_288 : decode cL_law 288 = .ok (.ishr, 1) := by decide +kernel
theorem dL_law_289 : decode cL_law 289 = .ok (.iload 9, 2) := by decide +kernel
theorem dL_law_291 : decode cL_law 291 = .ok (.bipush 14, 2) := by decide +kernel
theorem dL_law_293 : decode cL_law 293 = .ok (.ishr, 1) := by decide +kernel
theorem dL_law_294 : decode cL_law 294 = .ok (.iconst 3, 1) := by decide +kernel
theorem dL_law_295 : decode cL_law 295 = .ok (.invokestatic 87, 3) := by decide +kernel
theorem dL_law_298 : decode cL_law 298 = .ok (.ifCond .ne 8, 3) := by decide +kernel
theorem dL_law_301 : decode cL_law 301 = .ok (.ldc 90, 2) := by decide +kernel
theorem dL_law_303 : decode cL_law 303 = .ok (.goto 5, 3) := by decide +kernel
theorem dL_law_306 : decode cL_law 306 = .ok (.bipush 90, 2) := by decide +kernel
theorem dL_law_308 : decode cL_law 308 = .ok (.invokestatic 87, 3) := by decide +kernel
theorem dL_law_311 : decode cL_law 311 = .ok (.iadd, 1) := by decide +kernel
theorem dL_law_312 : decode cL_law 312 = .ok (.istore 13, 2) := by decide +kernel
theorem dL_law_314 : decode cL_law 314 = .ok (.aload_n 2, 1) := by decide +kernel
