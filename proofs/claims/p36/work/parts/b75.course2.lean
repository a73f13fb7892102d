theorem qw_504 : Cond.methodLink RX5 32 yX2_payingEnds ∈ wsL_law := tseg_4 (by decide +kernel) (List.mem_of_getElem? (i := 80) rfl)
theorem qw_505 : Cond.instanceMethod yX2_payingEnds ∈ wsL_law := tseg_3 (by decide +kernel) (List.mem_of_getElem? (i := 106) rfl)
theorem qw_506 : Cond.selects RX2 yX2_payingEnds yX2_payingEnds ∈ wsL_law := tseg_3 (by decide +kernel) (List.mem_of_getElem? (i := 107) rfl)
theorem qw_507 : Cond.code yX2_payingEnds cX2_payingEnds 3 (some .int) ∈ wsL_law := tseg_3 (by decide +kernel) (List.mem_of_getElem? (i := 108) rfl)
theorem qw_508 : Cond.methodLink RX5 36 yX5_isBroughtToPay ∈ wsL_law := tseg_4 (by decide +kernel) (List.mem_of_getElem? (i := 81) rfl)
theorem qw_509 : Cond.instanceMethod yX5_isBroughtToPay ∈ wsL_law := tseg_4 (by decide +kernel) (List.mem_of_getElem? (i := 83) rfl)
theorem qw_510 : Cond.selects RX5 yX5_isBroughtToPay yX5_isBroughtToPay ∈ wsL_law := List.mem_filter.mpr ⟨List.mem_append_left _ (List.mem_of_getElem? (i := 34) rfl), by decide +kernel⟩
theorem qw_511 : Cond.initialized RX5 ∈ wsL_law := tseg_1 (by decide +kernel) (List.mem_of_getElem? (i := 11) rfl)
theorem qw_512 : Cond.code yX5_isBroughtToPay cX5_isBroughtToPay 5 (some .boolean) ∈ wsL_law := tseg_4 (by decide +kernel) (List.mem_of_getElem? (i := 84) rfl)
theorem qw_513 : Cond.methodLink RX5 29 yX5_broughtToPay ∈ wsL_law := tseg_4 (by decide +kernel) (List.mem_of_getElem? (i := 76) rfl)
theorem qw_514 : Cond.instanceMethod yX5_broughtToPay ∈ wsL_law := tseg_4 (by decide +kernel) (List.mem_of_getElem? (i := 78) rfl)
theorem qw_515 : Cond.selects RX5 yX5_broughtToPay yX5_broughtToPay ∈ wsL_law := List.mem_filter.mpr ⟨List.mem_append_left _ (List.mem_of_getElem? (i := 33) rfl), by decide +kernel⟩
theorem qw_516 : Cond.code yX5_broughtToPay cX5_broughtToPay 6 (some .int) ∈ wsL_law := tseg_4 (by decide +kernel) (List.mem_of_getElem? (i := 79) rfl)
theorem qw_517 : Cond.fieldLink RX0 12 "ChanceRings$Course" "equations" "LChanceRings$Equations;" ∈ wsL_law := tseg_2 (by decide +kernel) (List.mem_of_getElem? (i := 52) rfl)
theorem qw_518 : Cond.methodLink RX0 81 yX1_clear ∈ wsL_law := tseg_3 (by decide +kernel) (List.mem_of_getElem? (i := 138) rfl)
theorem qw_519 : Cond.instanceMethod yX1_clear ∈ wsL_law := tseg_3 (by decide +kernel) (List.mem_of_getElem? (i := 139) rfl)
theorem qw_520 : Cond.selects RX1 yX1_clear yX1_clear ∈ wsL_law := tseg_3 (by decide +kernel) (List.mem_of_getElem? (i := 140) rfl)
theorem qw_521 : Cond.code yX1_clear cX1_clear 3 none ∈ wsL_law := tseg_3 (by decide +kernel) (List.mem_of_getElem? (i := 141) rfl)
theorem qw_522 : Cond.methodLink RX0 84 yX0_placeOpen ∈ wsL_law := tseg_3 (by decide +kernel) (List.mem_of_getElem? (i := 142) rfl)
theorem qw_523 : Cond.instanceMethod yX0_placeOpen ∈ wsL_law := tseg_3 (by decide +kernel) (List.mem_of_getElem? (i := 144) rfl)
theorem qw_524 : Cond.selects RX0 yX0_placeOpen yX0_placeOpen ∈ wsL_law := List.mem_filter.mpr ⟨List.mem_append_left _ (List.mem_of_getElem? (i := 18) rfl), by decide +kernel⟩
theorem qw_525 : Cond.code yX0_placeOpen cX0_placeOpen 4 (some .int) ∈ wsL_law := tseg_3 (by decide +kernel) (List.mem_of_getElem? (i := 145) rfl)
theorem qw_526 : Cond.fieldLink RX0 87 "ChanceRings$Equations" "rows" "[[J" ∈ wsL_law := tseg_2 (by decide +kernel) (List.mem_of_getElem? (i := 38) rfl)
theorem qw_527 : Cond.methodLink RX0 77 yX2_together ∈ wsL_law := tseg_3 (by decide +kernel) (List.mem_of_getElem? (i := 146) rfl)
theorem qw_528 : Cond.methodLink RX0 91 yX1_solve ∈ wsL_law := tseg_3 (by decide +kernel) (List.mem_of_getElem? (i := 155) rfl)
theorem qw_529 : Cond.instanceMethod yX1_solve ∈ wsL_law := tseg_3 (by decide +kernel) (List.mem_of_getElem? (i := 156) rfl)
theorem qw_530 : Cond.selects RX1 yX1_solve yX1_solve ∈ wsL_law := tseg_3 (by decide +kernel) (List.mem_of_getElem? (i := 157) rfl)
theorem qw_531 : Cond.code yX1_solve cX1_solve 6 none ∈ wsL_law := tseg_3 (by decide +kernel) (List.mem_of_getElem? (i := 158) rfl)
theorem qw_532 : Cond.fieldLink RX0 95 "ChanceRings$Equations" "whole" "J" ∈ wsL_law := tseg_2 (by decide +kernel) (List.mem_of_getElem? (i := 42) rfl)
theorem qw_533 : Cond.fieldLink RX0 73 "ChanceRings$Values" "whole" "J" ∈ wsL_law := tseg_2 (by decide +kernel) (List.mem_of_getElem? (i := 93) rfl)
theorem qw_534 : Cond.fieldLink RX0 65 "ChanceRings$Values" "part" "[J" ∈ wsL_law := tseg_2 (by decide +kernel) (List.mem_of_getElem? (i := 88) rfl)
theorem qw_535 : Cond.fieldLink RX0 53 "ChanceRings$Equations" "right" "[J" ∈ wsL_law := tseg_2 (by decide +kernel) (List.mem_of_getElem? (i := 40) rfl)
theorem qw_536 : Cond.methodLink RX0 45 yX0_lay ∈ wsL_law := tseg_3 (by decide +kernel) (List.mem_of_getElem? (i := 134) rfl)
theorem qw_537 : Cond.instanceMethod yX0_lay ∈ wsL_law := tseg_3 (by decide +kernel) (List.mem_of_getElem? (i := 136) rfl)
theorem qw_538 : Cond.selects RX0 yX0_lay yX0_lay ∈ wsL_law := List.mem_filter.mpr ⟨List.mem_append_left _ (List.mem_of_getElem? (i := 17) rfl), by decide +kernel⟩
theorem qw_539 : Cond.code yX0_lay cX0_lay 10 (some .int) ∈ wsL_law := tseg_3 (by decide +kernel) (List.mem_of_getElem? (i := 137) rfl)
theorem qw_540 : Cond.methodLink RX0 61 yX0_finish ∈ wsL_law := tseg_3 (by decide +kernel) (List.mem_of_getElem? (i := 151) rfl)
theorem qw_541 : Cond.instanceMethod yX0_finish ∈ wsL_law := tseg_3 (by decide +kernel) (List.mem_of_getElem? (i := 153) rfl)
theorem qw_542 : Cond.selects RX0 yX0_finish yX0_finish ∈ wsL_law := List.mem_filter.mpr ⟨List.mem_append_left _ (List.mem_of_getElem? (i := 20) rfl), by decide +kernel⟩
theorem qw_543 : Cond.code yX0_finish cX0_finish 4 none ∈ wsL_law := tseg_3 (by decide +kernel) (List.mem_of_getElem? (i := 154) rfl)
theorem qw_544 : Cond.methodLink RX0 57 yX0_paidNext ∈ wsL_law := tseg_3 (by decide +kernel) (List.mem_of_getElem? (i := 147) rfl)
theorem qw_545 : Cond.instanceMethod yX0_paidNext ∈ wsL_law := tseg_3 (by decide +kernel) (List.mem_of_getElem? (i := 149) rfl)
theorem qw_546 : Cond.selects RX0 yX0_paidNext yX0_paidNext ∈ wsL_law := List.mem_filter.mpr ⟨List.mem_append_left _ (List.mem_of_getElem? (i := 19) rfl), by decide +kernel⟩
theorem qw_547 : Cond.code yX0_paidNext cX0_paidNext 7 (some .long) ∈ wsL_law := tseg_3 (by decide +kernel) (List.mem_of_getElem? (i := 150) rfl)
theorem dX0_expectMoves_0 : decode cX0_expectMoves 0 = .ok (.aload_n 0, 1) := by decide +kernel
theorem dX0_expectMoves_1 : decode cX0_expectMoves 1 = .ok (.aload_n 1, 1) := by decide +kernel
theorem dX0_expectMoves_2 : decode cX0_expectMoves 2 = .ok (.iload_n 2, 1) := by decide +kernel
theorem dX0_expectMoves_3 : decode cX0_expectMoves 3 = .ok (.iconst 1, 1) := by decide +kernel
theorem dX0_expectMoves_4 : decode cX0_expectMoves 4 = .ok (.iconst 1, 1) := by decide +kernel
theorem dX0_expectMoves_5 : decode cX0_expectMoves 5 = .ok (.invokevirtual 45, 3) := by decide +kernel
theorem dX0_expectMoves_8 : decode cX0_expectMoves 8 = .ok (.istore 4, 2) := by decide +kernel
theorem dX0_expectMoves_10 : decode cX0_expectMoves 10 = .ok (.iconst 0, 1) := by decide +kernel
theorem dX0_expectMoves_11 : decode cX0_expectMoves 11 = .ok (.istore 5, 2) := by decide +kernel
theorem dX0_expectMoves_13 : decode cX0_expectMoves 13 = .ok (.iload 5, 2) := by decide +kernel
theorem dX0_expectMoves_15 : decode cX0_expectMoves 15 = .ok (.aload_n 0, 1) := by decide +kernel
theorem dX0_expectMoves_16 : decode cX0_expectMoves 16 = .ok (.getfield 22, 3) := by decide +kernel
theorem dX0_expectMoves_19 : decode cX0_expectMoves 19 = .ok (.getfield 49, 3) := by decide +kernel
theorem dX0_expectMoves_22 : decode cX0_expectMoves 22 = .ok (.if_icmp .ge 45, 3) := by decide +kernel
theorem dX0_expectMoves_25 : decode cX0_expectMoves 25 = .ok (.aload_n 0, 1) := by decide +kernel
theorem dX0_expectMoves_26 : decode cX0_expectMoves 26 = .ok (.getfield 18, 3) := by decide +kernel
theorem dX0_expectMoves_29 : decode cX0_expectMoves 29 = .ok (.iload 5, 2) := by decide +kernel
theorem dX0_expectMoves_31 : decode cX0_expectMoves 31 = .ok (.iaload, 1) := by decide +kernel
theorem dX0_expectMoves_32 : decode cX0_expectMoves 32 = .ok (.iconst (-1), 1) := by decide +kernel
theorem dX0_expectMoves_33 : decode cX0_expectMoves 33 = .ok (.if_icmp .eq 28, 3) := by decide +kernel
theorem dX0_expectMoves_36 : decode cX0_expectMoves 36 = .ok (.aload_n 0, 1) := by decide +kernel
theorem dX0_expectMoves_37 : decode cX0_expectMoves 37 = .ok (.getfield 12, 3) := by decide +kernel
theorem dX0_expectMoves_40 : decode cX0_expectMoves 40 = .ok (.getfield 53, 3) := by decide +kernel
theorem dX0_expectMoves_43 : decode cX0_expectMoves 43 = .ok (.aload_n 0, 1) := by decide +kernel
theorem dX0_expectMoves_44 : decode cX0_expectMoves 44 = .ok (.getfield 18, 3) := by decide +kernel
theorem dX0_expectMoves_47 : decode cX0_expectMoves 47 = .ok (.iload 5, 2) := by decide +kernel
theorem dX0_expectMoves_49 : decode cX0_expectMoves 49 = .ok (.iaload, 1) := by decide +kernel
theorem dX0_expectMoves_50 : decode cX0_expectMoves 50 = .ok (.aload_n 0, 1) := by decide +kernel
theorem dX0_expectMoves_51 : decode cX0_expectMoves 51 = .ok (.getfield 22, 3) := by decide +kernel
theorem dX0_expectMoves_54 : decode cX0_expectMoves 54 = .ok (.iload 5, 2) := by decide +kernel
theorem dX0_expectMoves_56 : decode cX0_expectMoves 56 = .ok (.invokevirtual 77, 3) := by decide +kernel
theorem dX0_expectMoves_59 : decode cX0_expectMoves 59 = .ok (.i2l, 1) := by decide +kernel
theorem dX0_expectMoves_60 : decode cX0_expectMoves 60 = .ok (.lastore, 1) := by decide +kernel
theorem dX0_expectMoves_61 : decode cX0_expectMoves 61 = .ok (.iinc 5 1, 3) := by decide +kernel
theorem dX0_expectMoves_64 : decode cX0_expectMoves 64 = .ok (.goto (-51), 3) := by decide +kernel
theorem dX0_expectMoves_67 : decode cX0_expectMoves 67 = .ok (.aload_n 0, 1) := by decide +kernel
theorem dX0_expectMoves_68 : decode cX0_expectMoves 68 = .ok (.iload 4, 2) := by decide +kernel
theorem dX0_expectMoves_70 : decode cX0_expectMoves 70 = .ok (.aload_n 3, 1) := by decide +kernel
theorem dX0_expectMoves_71 : decode cX0_expectMoves 71 = .ok (.invokevirtual 61, 3) := by decide +kernel
theorem dX0_expectMoves_74 : decode cX0_expectMoves 74 = .ok (.return_, 1) := by decide +kernel
theorem dX0_expectPay_0 : decode cX0_expectPay 0 = .ok (.aload_n 0, 1) := by decide +kernel
theorem dX0_expectPay_1 : decode cX0_expectPay 1 = .ok (.aload_n 1, 1) := by decide +kernel
theorem dX0_expectPay_2 : decode cX0_expectPay 2 = .ok (.iload_n 2, 1) := by decide +kernel
theorem dX0_expectPay_3 : decode cX0_expectPay 3 = .ok (.iload_n 3, 1) := by decide +kernel
theorem dX0_expectPay_4 : decode cX0_expectPay 4 = .ok (.iload 4, 2) := by decide +kernel
theorem dX0_expectPay_6 : decode cX0_expectPay 6 = .ok (.invokevirtual 45, 3) := by decide +kernel
theorem dX0_expectPay_9 : decode cX0_expectPay 9 = .ok (.istore 6, 2) := by decide +kernel
theorem dX0_expectPay_11 : decode cX0_expectPay 11 = .ok (.iconst 0, 1) := by decide +kernel
theorem dX0_expectPay_12 : decode cX0_expectPay 12 = .ok (.istore 7, 2) := by decide +kernel
theorem dX0_expectPay_14 : decode cX0_expectPay 14 = .ok (.iload 7, 2) := by decide +kernel
theorem dX0_expectPay_16 : decode cX0_expectPay 16 = .ok (.aload_n 0, 1) := by decide +kernel
theorem dX0_expectPay_17 : decode cX0_expectPay 17 = .ok (.getfield 22, 3) := by decide +kernel
theorem dX0_expectPay_20 : decode cX0_expectPay 20 = .ok (.getfield 49, 3) := by decide +kernel
theorem dX0_expectPay_23 : decode cX0_expectPay 23 = .ok (.if_icmp .ge 45, 3) := by decide +kernel
theorem dX0_expectPay_26 : decode cX0_expectPay 26 = .ok (.aload_n 0, 1) := by decide +kernel
theorem dX0_expectPay_27 : decode cX0_expectPay 27 = .ok (.getfield 18, 3) := by decide +kernel
theorem dX0_expectPay_30 : decode cX0_expectPay 30 = .ok (.iload 7, 2) := by decide +kernel
theorem dX0_expectPay_32 : decode cX0_expectPay 32 = .ok (.iaload, 1) := by decide +kernel
theorem dX0_expectPay_33 : decode cX0_expectPay 33 = .ok (.iconst (-1), 1) := by decide +kernel
theorem dX0_expectPay_34 : decode cX0_expectPay 34 = .ok (.if_icmp .eq 28, 3) := by decide +kernel
theorem dX0_expectPay_37 : decode cX0_expectPay 37 = .ok (.aload_n 0, 1) := by decide +kernel
theorem dX0_expectPay_38 : decode cX0_expectPay 38 = .ok (.getfield 12, 3) := by decide +kernel
theorem dX0_expectPay_41 : decode cX0_expectPay 41 = .ok (.getfield 53, 3) := by decide +kernel
theorem dX0_expectPay_44 : decode cX0_expectPay 44 = .ok (.aload_n 0, 1) := by decide +kernel
theorem dX0_expectPay_45 : decode cX0_expectPay 45 = .ok (.getfield 18, 3) := by decide +kernel
theorem dX0_expectPay_48 : decode cX0_expectPay 48 = .ok (.iload 7, 2) := by decide +kernel
theorem dX0_expectPay_50 : decode cX0_expectPay 50 = .ok (.iaload, 1) := by decide +kernel
theorem dX0_expectPay_51 : decode cX0_expectPay 51 = .ok (.iload_n 3, 1) := by decide +kernel
theorem dX0_expectPay_52 : decode cX0_expectPay 52 = .ok (.i2l, 1) := by decide +kernel
theorem dX0_expectPay_53 : decode cX0_expectPay 53 = .ok (.aload_n 0, 1) := by decide +kernel
theorem dX0_expectPay_54 : decode cX0_expectPay 54 = .ok (.aload_n 1, 1) := by decide +kernel
theorem dX0_expectPay_55 : decode cX0_expectPay 55 = .ok (.iload 7, 2) := by decide +kernel
theorem dX0_expectPay_57 : decode cX0_expectPay 57 = .ok (.invokevirtual 57, 3) := by decide +kernel
theorem dX0_expectPay_60 : decode cX0_expectPay 60 = .ok (.lmul, 1) := by decide +kernel
theorem dX0_expectPay_61 : decode cX0_expectPay 61 = .ok (.lastore, 1) := by decide +kernel
theorem dX0_expectPay_62 : decode cX0_expectPay 62 = .ok (.iinc 7 1, 3) := by decide +kernel
theorem dX0_expectPay_65 : decode cX0_expectPay 65 = .ok (.goto (-51), 3) := by decide +kernel
theorem dX0_expectPay_68 : decode cX0_expectPay 68 = .ok (.aload_n 0, 1) := by decide +kernel
theorem dX0_expectPay_69 : decode cX0_expectPay 69 = .ok (.iload 6, 2) := by decide +kernel
theorem dX0_expectPay_71 : decode cX0_expectPay 71 = .ok (.aload 5, 2) := by decide +kernel
theorem dX0_expectPay_73 : decode cX0_expectPay 73 = .ok (.invokevirtual 61, 3) := by decide +kernel
theorem dX0_expectPay_76 : decode cX0_expectPay 76 = .ok (.iconst 0, 1) := by decide +kernel
theorem dX0_expectPay_77 : decode cX0_expectPay 77 = .ok (.istore 7, 2) := by decide +kernel
theorem dX0_expectPay_79 : decode cX0_expectPay 79 = .ok (.iload 7, 2) := by decide +kernel
theorem dX0_expectPay_81 : decode cX0_expectPay 81 = .ok (.aload_n 0, 1) := by decide +kernel
theorem dX0_expectPay_82 : decode cX0_expectPay 82 = .ok (.getfield 22, 3) := by decide +kernel
theorem dX0_expectPay_85 : decode cX0_expectPay 85 = .ok (.getfield 49, 3) := by decide +kernel
theorem dX0_expectPay_88 : decode cX0_expectPay 88 = .ok (.if_icmp .ge 47, 3) := by decide +kernel
theorem dX0_expectPay_91 : decode cX0_expectPay 91 = .ok (.aload_n 0, 1) := by decide +kernel
theorem dX0_expectPay_92 : decode cX0_expectPay 92 = .ok (.getfield 22, 3) := by decide +kernel
theorem dX0_expectPay_95 : decode cX0_expectPay 95 = .ok (.getfield 26, 3) := by decide +kernel
theorem dX0_expectPay_98 : decode cX0_expectPay 98 = .ok (.iload 7, 2) := by decide +kernel
theorem dX0_expectPay_100 : decode cX0_expectPay 100 = .ok (.iaload, 1) := by decide +kernel
theorem dX0_expectPay_101 : decode cX0_expectPay 101 = .ok (.ifCond .ne 28, 3) := by decide +kernel
theorem dX0_expectPay_104 : decode cX0_expectPay 104 = .ok (.aload 5, 2) := by decide +kernel
theorem dX0_expectPay_106 : decode cX0_expectPay 106 = .ok (.getfield 65, 3) := by decide +kernel
theorem dX0_expectPay_109 : decode cX0_expectPay 109 = .ok (.iload 7, 2) := by decide +kernel
theorem dX0_expectPay_111 : decode cX0_expectPay 111 = .ok (.aload_n 0, 1) := by decide +kernel
theorem dX0_expectPay_112 : decode cX0_expectPay 112 = .ok (.getfield 22, 3) := by decide +kernel
theorem dX0_expectPay_115 : decode cX0_expectPay 115 = .ok (.getfield 70, 3) := by decide +kernel
theorem dX0_expectPay_118 : decode cX0_expectPay 118 = .ok (.iload 7, 2) := by decide +kernel
theorem dX0_expectPay_120 : decode cX0_expectPay 120 = .ok (.iaload, 1) := by decide +kernel
theorem dX0_expectPay_121 : decode cX0_expectPay 121 = .ok (.i2l, 1) := by decide +kernel
theorem dX0_expectPay_122 : decode cX0_expectPay 122 = .ok (.aload 5, 2) := by decide +kernel
theorem dX0_expectPay_124 : decode cX0_expectPay 124 = .ok (.getfield 73, 3) := by decide +kernel
theorem dX0_expectPay_127 : decode cX0_expectPay 127 = .ok (.lmul, 1) := by decide +kernel
theorem dX0_expectPay_128 : decode cX0_expectPay 128 = .ok (.lastore, 1) := by decide +kernel
theorem dX0_expectPay_129 : decode cX0_expectPay 129 = .ok (.iinc 7 1, 3) := by decide +kernel
theorem dX0_expectPay_132 : decode cX0_expectPay 132 = .ok (.goto (-53), 3) := by decide +kernel
theorem dX0_expectPay_135 : decode cX0_expectPay 135 = .ok (.return_, 1) := by decide +kernel
theorem dX0_finish_0 : decode cX0_finish 0 = .ok (.aload_n 0, 1) := by decide +kernel
theorem dX0_finish_1 : decode cX0_finish 1 = .ok (.getfield 12, 3) := by decide +kernel
theorem dX0_finish_4 : decode cX0_finish 4 = .ok (.iload_n 1, 1) := by decide +kernel
theorem dX0_finish_5 : decode cX0_finish 5 = .ok (.invokevirtual 91, 3) := by decide +kernel
theorem dX0_finish_8 : decode cX0_finish 8 = .ok (.aload_n 2, 1) := by decide +kernel
theorem dX0_finish_9 : decode cX0_finish 9 = .ok (.aload_n 0, 1) := by decide +kernel
theorem dX0_finish_10 : decode cX0_finish 10 = .ok (.getfield 12, 3) := by decide +kernel
theorem dX0_finish_13 : decode cX0_finish 13 = .ok (.getfield 95, 3) := by decide +kernel
theorem dX0_finish_16 : decode cX0_finish 16 = .ok (.putfield 73, 3) := by decide +kernel
theorem dX0_finish_19 : decode cX0_finish 19 = .ok (.iconst 0, 1) := by decide +kernel
theorem dX0_finish_20 : decode cX0_finish 20 = .ok (.istore_n 3, 1) := by decide +kernel
theorem dX0_finish_21 : decode cX0_finish 21 = .ok (.iload_n 3, 1) := by decide +kernel
theorem dX0_finish_22 : decode cX0_finish 22 = .ok (.aload_n 0, 1) := by decide +kernel
theorem dX0_finish_23 : decode cX0_finish 23 = .ok (.getfield 22, 3) := by decide +kernel
theorem dX0_finish_26 : decode cX0_finish 26 = .ok (.getfield 49, 3) := by decide +kernel
theorem dX0_finish_29 : decode cX0_finish 29 = .ok (.if_icmp .ge 43, 3) := by decide +kernel
theorem dX0_finish_32 : decode cX0_finish 32 = .ok (.aload_n 2, 1) := by decide +kernel
theorem dX0_finish_33 : decode cX0_finish 33 = .ok (.getfield 65, 3) := by decide +kernel
theorem dX0_finish_36 : decode cX0_finish 36 = .ok (.iload_n 3, 1) := by decide +kernel
theorem dX0_finish_37 : decode cX0_finish 37 = .ok (.aload_n 0, 1) := by decide +kernel
theorem dX0_finish_38 : decode cX0_finish 38 = .ok (.getfield 18, 3) := by decide +kernel
theorem dX0_finish_41 : decode cX0_finish 41 = .ok (.iload_n 3, 1) := by decide +kernel
theorem dX0_finish_42 : decode cX0_finish 42 = .ok (.iaload, 1) := by decide +kernel
theorem dX0_finish_43 : decode cX0_finish 43 = .ok (.iconst (-1), 1) := by decide +kernel
theorem dX0_finish_44 : decode cX0_finish 44 = .ok (.if_icmp .ne 7, 3) := by decide +kernel
theorem dX0_finish_47 : decode cX0_finish 47 = .ok (.lconst 0, 1) := by decide +kernel
theorem dX0_finish_48 : decode cX0_finish 48 = .ok (.goto 17, 3) := by decide +kernel
theorem dX0_finish_51 : decode cX0_finish 51 = .ok (.aload_n 0, 1) := by decide +kernel
theorem dX0_finish_52 : decode cX0_finish 52 = .ok (.getfield 12, 3) := by decide +kernel
theorem dX0_finish_55 : decode cX0_finish 55 = .ok (.getfield 53, 3) := by decide +kernel
theorem dX0_finish_58 : decode cX0_finish 58 = .ok (.aload_n 0, 1) := by decide +kernel
theorem dX0_finish_59 : decode cX0_finish 59 = .ok (.getfield 18, 3) := by decide +kernel
theorem dX0_finish_62 : decode cX0_finish 62 = .ok (.iload_n 3, 1) := by decide +kernel
theorem dX0_finish_63 : decode cX0_finish 63 = .ok (.iaload, 1) := by decide +kernel
theorem dX0_finish_64 : decode cX0_finish 64 = .ok (.laload, 1) := by decide +kernel
theorem dX0_finish_65 : decode cX0_finish 65 = .ok (.lastore, 1) := by decide +kernel
theorem dX0_finish_66 : decode cX0_finish 66 = .ok (.iinc 3 1, 3) := by decide +kernel
theorem dX0_finish_69 : decode cX0_finish 69 = .ok (.goto (-48), 3) := by decide +kernel
theorem dX0_finish_72 : decode cX0_finish 72 = .ok (.return_, 1) := by decide +kernel
theorem dX0_lay_0 : decode cX0_lay 0 = .ok (.aload_n 0, 1) := by decide +kernel
theorem dX0_lay_1 : decode cX0_lay 1 = .ok (.getfield 12, 3) := by decide +kernel
theorem dX0_lay_4 : decode cX0_lay 4 = .ok (.invokevirtual 81, 3) := by decide +kernel
theorem dX0_lay_7 : decode cX0_lay 7 = .ok (.aload_n 0, 1) := by decide +kernel
theorem dX0_lay_8 : decode cX0_lay 8 = .ok (.iload_n 2, 1) := by decide +kernel
theorem dX0_lay_9 : decode cX0_lay 9 = .ok (.invokevirtual 84, 3) := by decide +kernel
theorem dX0_lay_12 : decode cX0_lay 12 = .ok (.istore 5, 2) := by decide +kernel
theorem dX0_lay_14 : decode cX0_lay 14 = .ok (.iconst 0, 1) := by decide +kernel
theorem dX0_lay_15 : decode cX0_lay 15 = .ok (.istore 6, 2) := by decide +kernel
theorem dX0_lay_17 : decode cX0_lay 17 = .ok (.iload 6, 2) := by decide +kernel
theorem dX0_lay_19 : decode cX0_lay 19 = .ok (.aload_n 0, 1) := by decide +kernel
theorem dX0_lay_20 : decode cX0_lay 20 = .ok (.getfield 22, 3) := by decide +kernel
theorem dX0_lay_23 : decode cX0_lay 23 = .ok (.getfield 49, 3) := by decide +kernel
theorem dX0_lay_26 : decode cX0_lay 26 = .ok (.if_icmp .ge 128, 3) := by decide +kernel
theorem dX0_lay_29 : decode cX0_lay 29 = .ok (.aload_n 0, 1) := by decide +kernel
theorem dX0_lay_30 : decode cX0_lay 30 = .ok (.getfield 18, 3) := by decide +kernel
theorem dX0_lay_33 : decode cX0_lay 33 = .ok (.iload 6, 2) := by decide +kernel
theorem dX0_lay_35 : decode cX0_lay 35 = .ok (.iaload, 1) := by decide +kernel
theorem dX0_lay_36 : decode cX0_lay 36 = .ok (.istore 7, 2) := by decide +kernel
theorem dX0_lay_38 : decode cX0_lay 38 = .ok (.iload 7, 2) := by decide +kernel
theorem dX0_lay_40 : decode cX0_lay 40 = .ok (.iconst (-1), 1) := by decide +kernel
theorem dX0_lay_41 : decode cX0_lay 41 = .ok (.if_icmp .eq 107, 3) := by decide +kernel
theorem dX0_lay_44 : decode cX0_lay 44 = .ok (.aload_n 0, 1) := by decide +kernel
theorem dX0_lay_45 : decode cX0_lay 45 = .ok (.getfield 12, 3) := by decide +kernel
theorem dX0_lay_48 : decode cX0_lay 48 = .ok (.getfield 87, 3) := by decide +kernel
theorem dX0_lay_51 : decode cX0_lay 51 = .ok (.iload 7, 2) := by decide +kernel
theorem dX0_lay_53 : decode cX0_lay 53 = .ok (.aaload, 1) := by decide +kernel
theorem dX0_lay_54 : decode cX0_lay 54 = .ok (.iload 7, 2) := by decide +kernel
theorem dX0_lay_56 : decode cX0_lay 56 = .ok (.iload 4, 2) := by decide +kernel
theorem dX0_lay_58 : decode cX0_lay 58 = .ok (.i2l, 1) := by decide +kernel
theorem dX0_lay_59 : decode cX0_lay 59 = .ok (.aload_n 0, 1) := by decide +kernel
theorem dX0_lay_60 : decode cX0_lay 60 = .ok (.getfield 22, 3) := by decide +kernel
theorem dX0_lay_63 : decode cX0_lay 63 = .ok (.iload 6, 2) := by decide +kernel
theorem dX0_lay_65 : decode cX0_lay 65 = .ok (.invokevirtual 77, 3) := by decide +kernel
theorem dX0_lay_68 : decode cX0_lay 68 = .ok (.i2l, 1) := by decide +kernel
theorem dX0_lay_69 : decode cX0_lay 69 = .ok (.lmul, 1) := by decide +kernel
theorem dX0_lay_70 : decode cX0_lay 70 = .ok (.lastore, 1) := by decide +kernel
theorem dX0_lay_71 : decode cX0_lay 71 = .ok (.iconst 0, 1) := by decide +kernel
theorem dX0_lay_72 : decode cX0_lay 72 = .ok (.istore 8, 2) := by decide +kernel
theorem dX0_lay_74 : decode cX0_lay 74 = .ok (.iload 8, 2) := by decide +kernel
theorem dX0_lay_76 : decode cX0_lay 76 = .ok (.aload_n 0, 1) := by decide +kernel
theorem dX0_lay_77 : decode cX0_lay 77 = .ok (.getfield 22, 3) := by decide +kernel
theorem dX0_lay_80 : decode cX0_lay 80 = .ok (.getfield 34, 3) := by decide +kernel
theorem dX0_lay_83 : decode cX0_lay 83 = .ok (.iload 6, 2) := by decide +kernel
theorem dX0_lay_85 : decode cX0_lay 85 = .ok (.iaload, 1) := by decide +kernel
theorem dX0_lay_86 : decode cX0_lay 86 = .ok (.if_icmp .ge 62, 3) := by decide +kernel
theorem dX0_lay_89 : decode cX0_lay 89 = .ok (.aload_n 0, 1) := by decide +kernel
theorem dX0_lay_90 : decode cX0_lay 90 = .ok (.getfield 18, 3) := by decide +kernel
theorem dX0_lay_93 : decode cX0_lay 93 = .ok (.aload_n 0, 1) := by decide +kernel
theorem dX0_lay_94 : decode cX0_lay 94 = .ok (.getfield 22, 3) := by decide +kernel
theorem dX0_lay_97 : decode cX0_lay 97 = .ok (.iload 6, 2) := by decide +kernel
theorem dX0_lay_99 : decode cX0_lay 99 = .ok (.iload 8, 2) := by decide +kernel
theorem dX0_lay_101 : decode cX0_lay 101 = .ok (.invokevirtual 41, 3) := by decide +kernel
theorem dX0_lay_104 : decode cX0_lay 104 = .ok (.iaload, 1) := by decide +kernel
theorem dX0_lay_105 : decode cX0_lay 105 = .ok (.istore 9, 2) := by decide +kernel
theorem dX0_lay_107 : decode cX0_lay 107 = .ok (.iload 9, 2) := by decide +kernel
theorem dX0_lay_109 : decode cX0_lay 109 = .ok (.iconst (-1), 1) := by decide +kernel
theorem dX0_lay_110 : decode cX0_lay 110 = .ok (.if_icmp .eq 32, 3) := by decide +kernel
theorem dX0_lay_113 : decode cX0_lay 113 = .ok (.aload_n 0, 1) := by decide +kernel
theorem dX0_lay_114 : decode cX0_lay 114 = .ok (.getfield 12, 3) := by decide +kernel
theorem dX0_lay_117 : decode cX0_lay 117 = .ok (.getfield 87, 3) := by decide +kernel
theorem dX0_lay_120 : decode cX0_lay 120 = .ok (.iload 7, 2) := by decide +kernel
theorem dX0_lay_122 : decode cX0_lay 122 = .ok (.aaload, 1) := by decide +kernel
theorem dX0_lay_123 : decode cX0_lay 123 = .ok (.iload 9, 2) := by decide +kernel
theorem dX0_lay_125 : decode cX0_lay 125 = .ok (.dup2, 1) := by decide +kernel
theorem dX0_lay_126 : decode cX0_lay 126 = .ok (.laload, 1) := by decide +kernel
theorem dX0_lay_127 : decode cX0_lay 127 = .ok (.iload_n 3, 1) := by decide +kernel
theorem dX0_lay_128 : decode cX0_lay 128 = .ok (.i2l, 1) := by decide +kernel
theorem dX0_lay_129 : decode cX0_lay 129 = .ok (.aload_n 0, 1) := by decide +kernel
theorem dX0_lay_130 : decode cX0_lay 130 = .ok (.aload_n 1, 1) := by decide +kernel
theorem dX0_lay_131 : decode cX0_lay 131 = .ok (.iload 6, 2) := by decide +kernel
theorem dX0_lay_133 : decode cX0_lay 133 = .ok (.iload 8, 2) := by decide +kernel
theorem dX0_lay_135 : decode cX0_lay 135 = .ok (.invokevirtual 37, 3) := by decide +kernel
theorem dX0_lay_138 : decode cX0_lay 138 = .ok (.i2l, 1) := by decide +kernel
theorem dX0_lay_139 : decode cX0_lay 139 = .ok (.lmul, 1) := by decide +kernel
theorem dX0_lay_140 : decode cX0_lay 140 = .ok (.lsub, 1) := by decide +kernel
theorem dX0_lay_141 : decode cX0_lay 141 = .ok (.lastore, 1) := by decide +kernel
theorem dX0_lay_142 : decode cX0_lay 142 = .ok (.iinc 8 1, 3) := by decide +kernel
theorem dX0_lay_145 : decode cX0_lay 145 = .ok (.goto (-71), 3) := by decide +kernel
theorem dX0_lay_148 : decode cX0_lay 148 = .ok (.iinc 6 1, 3) := by decide +kernel
theorem dX0_lay_151 : decode cX0_lay 151 = .ok (.goto (-134), 3) := by decide +kernel
theorem dX0_lay_154 : decode cX0_lay 154 = .ok (.iload 5, 2) := by decide +kernel
theorem dX0_lay_156 : decode cX0_lay 156 = .ok (.ireturn, 1) := by decide +kernel
theorem dX5_broughtToPay_0 : decode cX5_broughtToPay 0 = .ok (.aload_n 0, 1) := by decide +kernel
theorem dX5_broughtToPay_1 : decode cX5_broughtToPay 1 = .ok (.getfield 9, 3) := by decide +kernel
theorem dX5_broughtToPay_4 : decode cX5_broughtToPay 4 = .ok (.invokevirtual 32, 3) := by decide +kernel
theorem dX5_broughtToPay_7 : decode cX5_broughtToPay 7 = .ok (.istore_n 2, 1) := by decide +kernel
theorem dX5_broughtToPay_8 : decode cX5_broughtToPay 8 = .ok (.iconst (-1), 1) := by decide +kernel
theorem dX5_broughtToPay_9 : decode cX5_broughtToPay 9 = .ok (.istore_n 3, 1) := by decide +kernel
theorem dX5_broughtToPay_10 : decode cX5_broughtToPay 10 = .ok (.iconst 0, 1) := by decide +kernel
theorem dX5_broughtToPay_11 : decode cX5_broughtToPay 11 = .ok (.istore 4, 2) := by decide +kernel
theorem dX5_broughtToPay_13 : decode cX5_broughtToPay 13 = .ok (.iload 4, 2) := by decide +kernel
theorem dX5_broughtToPay_15 : decode cX5_broughtToPay 15 = .ok (.bipush 12, 2) := by decide +kernel
theorem dX5_broughtToPay_17 : decode cX5_broughtToPay 17 = .ok (.if_icmp .ge 68, 3) := by decide +kernel
theorem dX5_broughtToPay_20 : decode cX5_broughtToPay 20 = .ok (.iload_n 2, 1) := by decide +kernel
theorem dX5_broughtToPay_21 : decode cX5_broughtToPay 21 = .ok (.iload_n 3, 1) := by decide +kernel
theorem dX5_broughtToPay_22 : decode cX5_broughtToPay 22 = .ok (.if_icmp .eq 63, 3) := by decide +kernel
theorem dX5_broughtToPay_25 : decode cX5_broughtToPay 25 = .ok (.iload_n 2, 1) := by decide +kernel
theorem dX5_broughtToPay_26 : decode cX5_broughtToPay 26 = .ok (.istore_n 3, 1) := by decide +kernel
theorem dX5_broughtToPay_27 : decode cX5_broughtToPay 27 = .ok (.iconst 0, 1) := by decide +kernel
theorem dX5_broughtToPay_28 : decode cX5_broughtToPay 28 = .ok (.istore 5, 2) := by decide +kernel
theorem dX5_broughtToPay_30 : decode cX5_broughtToPay 30 = .ok (.iload 5, 2) := by decide +kernel
theorem dX5_broughtToPay_32 : decode cX5_broughtToPay 32 = .ok (.aload_n 0, 1) := by decide +kernel
theorem dX5_broughtToPay_33 : decode cX5_broughtToPay 33 = .ok (.getfield 9, 3) := by decide +kernel
theorem dX5_broughtToPay_36 : decode cX5_broughtToPay 36 = .ok (.getfield 15, 3) := by decide +kernel
theorem dX5_broughtToPay_39 : decode cX5_broughtToPay 39 = .ok (.if_icmp .ge 40, 3) := by decide +kernel
theorem dX5_broughtToPay_42 : decode cX5_broughtToPay 42 = .ok (.aload_n 0, 1) := by decide +kernel
theorem dX5_broughtToPay_43 : decode cX5_broughtToPay 43 = .ok (.getfield 9, 3) := by decide +kernel
theorem dX5_broughtToPay_46 : decode cX5_broughtToPay 46 = .ok (.getfield 25, 3) := by decide +kernel
theorem dX5_broughtToPay_49 : decode cX5_broughtToPay 49 = .ok (.iload 5, 2) := by decide +kernel
theorem dX5_broughtToPay_51 : decode cX5_broughtToPay 51 = .ok (.iaload, 1) := by decide +kernel
theorem dX5_broughtToPay_52 : decode cX5_broughtToPay 52 = .ok (.ifCond .eq 21, 3) := by decide +kernel
theorem dX5_broughtToPay_55 : decode cX5_broughtToPay 55 = .ok (.aload_n 0, 1) := by decide +kernel
theorem dX5_broughtToPay_56 : decode cX5_broughtToPay 56 = .ok (.iload 5, 2) := by decide +kernel
theorem dX5_broughtToPay_58 : decode cX5_broughtToPay 58 = .ok (.iload_n 2, 1) := by decide +kernel
theorem dX5_broughtToPay_59 : decode cX5_broughtToPay 59 = .ok (.iload_n 1, 1) := by decide +kernel
theorem dX5_broughtToPay_60 : decode cX5_broughtToPay 60 = .ok (.invokevirtual 36, 3) := by decide +kernel
theorem dX5_broughtToPay_63 : decode cX5_broughtToPay 63 = .ok (.ifCond .eq 10, 3) := by decide +kernel
theorem dX5_broughtToPay_66 : decode cX5_broughtToPay 66 = .ok (.iload_n 2, 1) := by decide +kernel
theorem dX5_broughtToPay_67 : decode cX5_broughtToPay 67 = .ok (.iconst 1, 1) := by decide +kernel
theorem dX5_broughtToPay_68 : decode cX5_broughtToPay 68 = .ok (.iload 5, 2) := by decide +kernel
theorem dX5_broughtToPay_70 : decode cX5_broughtToPay 70 = .ok (.ishl, 1) := by decide +kernel
theorem dX5_broughtToPay_71 : decode cX5_broughtToPay 71 = .ok (.ior, 1) := by decide +kernel
theorem dX5_broughtToPay_72 : decode cX5_broughtToPay 72 = .ok (.istore_n 2, 1) := by decide +kernel
theorem dX5_broughtToPay_73 : decode cX5_broughtToPay 73 = .ok (.iinc 5 1, 3) := by decide +kernel
theorem dX5_broughtToPay_76 : decode cX5_broughtToPay 76 = .ok (.goto (-46), 3) := by decide +kernel
theorem dX5_broughtToPay_79 : decode cX5_broughtToPay 79 = .ok (.iinc 4 1, 3) := by decide +kernel
theorem dX5_broughtToPay_82 : decode cX5_broughtToPay 82 = .ok (.goto (-69), 3) := by decide +kernel
theorem dX5_broughtToPay_85 : decode cX5_broughtToPay 85 = .ok (.iload_n 2, 1) := by decide +kernel
theorem dX5_broughtToPay_86 : decode cX5_broughtToPay 86 = .ok (.ireturn, 1) := by decide +kernel
theorem dX5_isBroughtToPay_0 : decode cX5_isBroughtToPay 0 = .ok (.aload_n 0, 1) := by decide +kernel
theorem dX5_isBroughtToPay_1 : decode cX5_isBroughtToPay 1 = .ok (.getfield 9, 3) := by decide +kernel
theorem dX5_isBroughtToPay_4 : decode cX5_isBroughtToPay 4 = .ok (.iload_n 1, 1) := by decide +kernel
theorem dX5_isBroughtToPay_5 : decode cX5_isBroughtToPay 5 = .ok (.invokevirtual 21, 3) := by decide +kernel
theorem dX5_isBroughtToPay_8 : decode cX5_isBroughtToPay 8 = .ok (.istore 4, 2) := by decide +kernel
theorem dX5_isBroughtToPay_10 : decode cX5_isBroughtToPay 10 = .ok (.aload_n 0, 1) := by decide +kernel
theorem dX5_isBroughtToPay_11 : decode cX5_isBroughtToPay 11 = .ok (.getfield 9, 3) := by decide +kernel
theorem dX5_isBroughtToPay_14 : decode cX5_isBroughtToPay 14 = .ok (.getfield 25, 3) := by decide +kernel
theorem dX5_isBroughtToPay_17 : decode cX5_isBroughtToPay 17 = .ok (.iload_n 1, 1) := by decide +kernel
theorem dX5_isBroughtToPay_18 : decode cX5_isBroughtToPay 18 = .ok (.iaload, 1) := by decide +kernel
theorem dX5_isBroughtToPay_19 : decode cX5_isBroughtToPay 19 = .ok (.lookupswitch 53 #[(1, 25), (2, 38)], 25) := by decide +kernel
theorem dX5_isBroughtToPay_44 : decode cX5_isBroughtToPay 44 = .ok (.iload 4, 2) := by decide +kernel
theorem dX5_isBroughtToPay_46 : decode cX5_isBroughtToPay 46 = .ok (.iload_n 2, 1) := by decide +kernel
theorem dX5_isBroughtToPay_47 : decode cX5_isBroughtToPay 47 = .ok (.iand, 1) := by decide +kernel
theorem dX5_isBroughtToPay_48 : decode cX5_isBroughtToPay 48 = .ok (.ifCond .eq 7, 3) := by decide +kernel
theorem dX5_isBroughtToPay_51 : decode cX5_isBroughtToPay 51 = .ok (.iconst 1, 1) := by decide +kernel
theorem dX5_isBroughtToPay_52 : decode cX5_isBroughtToPay 52 = .ok (.goto 4, 3) := by decide +kernel
theorem dX5_isBroughtToPay_55 : decode cX5_isBroughtToPay 55 = .ok (.iconst 0, 1) := by decide +kernel
theorem dX5_isBroughtToPay_56 : decode cX5_isBroughtToPay 56 = .ok (.ireturn, 1) := by decide +kernel
theorem dX5_isBroughtToPay_57 : decode cX5_isBroughtToPay 57 = .ok (.iload 4, 2) := by decide +kernel
theorem dX5_isBroughtToPay_59 : decode cX5_isBroughtToPay 59 = .ok (.iload_n 2, 1) := by decide +kernel
theorem dX5_isBroughtToPay_60 : decode cX5_isBroughtToPay 60 = .ok (.iconst (-1), 1) := by decide +kernel
theorem dX5_isBroughtToPay_61 : decode cX5_isBroughtToPay 61 = .ok (.ixor, 1) := by decide +kernel
theorem dX5_isBroughtToPay_62 : decode cX5_isBroughtToPay 62 = .ok (.iand, 1) := by decide +kernel
theorem dX5_isBroughtToPay_63 : decode cX5_isBroughtToPay 63 = .ok (.ifCond .ne 7, 3) := by decide +kernel
theorem dX5_isBroughtToPay_66 : decode cX5_isBroughtToPay 66 = .ok (.iconst 1, 1) := by decide +kernel
theorem dX5_isBroughtToPay_67 : decode cX5_isBroughtToPay 67 = .ok (.goto 4, 3) := by decide +kernel
theorem dX5_isBroughtToPay_70 : decode cX5_isBroughtToPay 70 = .ok (.iconst 0, 1) := by decide +kernel
theorem dX5_isBroughtToPay_71 : decode cX5_isBroughtToPay 71 = .ok (.ireturn, 1) := by decide +kernel
theorem dX5_isBroughtToPay_72 : decode cX5_isBroughtToPay 72 = .ok (.iload 4, 2) := by decide +kernel
theorem dX5_isBroughtToPay_74 : decode cX5_isBroughtToPay 74 = .ok (.iload_n 2, 1) := by decide +kernel
theorem dX5_isBroughtToPay_75 : decode cX5_isBroughtToPay 75 = .ok (.iand, 1) := by decide +kernel
theorem dX5_isBroughtToPay_76 : decode cX5_isBroughtToPay 76 = .ok (.ifCond .eq 16, 3) := by decide +kernel
theorem dX5_isBroughtToPay_79 : decode cX5_isBroughtToPay 79 = .ok (.iload 4, 2) := by decide +kernel
theorem dX5_isBroughtToPay_81 : decode cX5_isBroughtToPay 81 = .ok (.iload_n 3, 1) := by decide +kernel
theorem dX5_isBroughtToPay_82 : decode cX5_isBroughtToPay 82 = .ok (.iconst (-1), 1) := by decide +kernel
theorem dX5_isBroughtToPay_83 : decode cX5_isBroughtToPay 83 = .ok (.ixor, 1) := by decide +kernel
theorem dX5_isBroughtToPay_84 : decode cX5_isBroughtToPay 84 = .ok (.iand, 1) := by decide +kernel
theorem dX5_isBroughtToPay_85 : decode cX5_isBroughtToPay 85 = .ok (.ifCond .ne 7, 3) := by decide +kernel
theorem dX5_isBroughtToPay_88 : decode cX5_isBroughtToPay 88 = .ok (.iconst 1, 1) := by decide +kernel
theorem dX5_isBroughtToPay_89 : decode cX5_isBroughtToPay 89 = .ok (.goto 4, 3) := by decide +kernel
theorem dX5_isBroughtToPay_92 : decode cX5_isBroughtToPay 92 = .ok (.iconst 0, 1) := by decide +kernel
theorem dX5_isBroughtToPay_93 : decode cX5_isBroughtToPay 93 = .ok (.ireturn, 1) := by decide +kernel
theorem dX5_movesToPay_0 : decode cX5_movesToPay 0 = .ok (.aload_n 0, 1) := by decide +kernel
theorem dX5_movesToPay_1 : decode cX5_movesToPay 1 = .ok (.getfield 9, 3) := by decide +kernel
theorem dX5_movesToPay_4 : decode cX5_movesToPay 4 = .ok (.invokevirtual 32, 3) := by decide +kernel
theorem dX5_movesToPay_7 : decode cX5_movesToPay 7 = .ok (.istore_n 2, 1) := by decide +kernel
theorem dX5_movesToPay_8 : decode cX5_movesToPay 8 = .ok (.iconst 1, 1) := by decide +kernel
theorem dX5_movesToPay_9 : decode cX5_movesToPay 9 = .ok (.iload_n 1, 1) := by decide +kernel
theorem dX5_movesToPay_10 : decode cX5_movesToPay 10 = .ok (.ishl, 1) := by decide +kernel
theorem dX5_movesToPay_11 : decode cX5_movesToPay 11 = .ok (.istore_n 3, 1) := by decide +kernel
theorem dX5_movesToPay_12 : decode cX5_movesToPay 12 = .ok (.iconst 0, 1) := by decide +kernel
theorem dX5_movesToPay_13 : decode cX5_movesToPay 13 = .ok (.istore 4, 2) := by decide +kernel
theorem dX5_movesToPay_15 : decode cX5_movesToPay 15 = .ok (.iload 4, 2) := by decide +kernel
theorem dX5_movesToPay_17 : decode cX5_movesToPay 17 = .ok (.bipush 12, 2) := by decide +kernel
theorem dX5_movesToPay_19 : decode cX5_movesToPay 19 = .ok (.if_icmp .ge 64, 3) := by decide +kernel
theorem dX5_movesToPay_22 : decode cX5_movesToPay 22 = .ok (.iload_n 3, 1) := by decide +kernel
theorem dX5_movesToPay_23 : decode cX5_movesToPay 23 = .ok (.iload_n 2, 1) := by decide +kernel
theorem dX5_movesToPay_24 : decode cX5_movesToPay 24 = .ok (.iand, 1) := by decide +kernel
theorem dX5_movesToPay_25 : decode cX5_movesToPay 25 = .ok (.ifCond .eq 6, 3) := by decide +kernel
theorem dX5_movesToPay_28 : decode cX5_movesToPay 28 = .ok (.iload 4, 2) := by decide +kernel
theorem dX5_movesToPay_30 : decode cX5_movesToPay 30 = .ok (.ireturn, 1) := by decide +kernel
theorem dX5_movesToPay_31 : decode cX5_movesToPay 31 = .ok (.iload_n 3, 1) := by decide +kernel
theorem dX5_movesToPay_32 : decode cX5_movesToPay 32 = .ok (.istore 5, 2) := by decide +kernel
theorem dX5_movesToPay_34 : decode cX5_movesToPay 34 = .ok (.iconst 0, 1) := by decide +kernel
theorem dX5_movesToPay_35 : decode cX5_movesToPay 35 = .ok (.istore 6, 2) := by decide +kernel
theorem dX5_movesToPay_37 : decode cX5_movesToPay 37 = .ok (.iload 6, 2) := by decide +kernel
theorem dX5_movesToPay_39 : decode cX5_movesToPay 39 = .ok (.aload_n 0, 1) := by decide +kernel
theorem dX5_movesToPay_40 : decode cX5_movesToPay 40 = .ok (.getfield 9, 3) := by decide +kernel
theorem dX5_movesToPay_43 : decode cX5_movesToPay 43 = .ok (.getfield 15, 3) := by decide +kernel
theorem dX5_movesToPay_46 : decode cX5_movesToPay 46 = .ok (.if_icmp .ge 31, 3) := by decide +kernel
theorem dX5_movesToPay_49 : decode cX5_movesToPay 49 = .ok (.iload 5, 2) := by decide +kernel
theorem dX5_movesToPay_51 : decode cX5_movesToPay 51 = .ok (.iload 6, 2) := by decide +kernel
theorem dX5_movesToPay_53 : decode cX5_movesToPay 53 = .ok (.ishr, 1) := by decide +kernel
theorem dX5_movesToPay_54 : decode cX5_movesToPay 54 = .ok (.iconst 1, 1) := by decide +kernel
theorem dX5_movesToPay_55 : decode cX5_movesToPay 55 = .ok (.iand, 1) := by decide +kernel
theorem dX5_movesToPay_56 : decode cX5_movesToPay 56 = .ok (.ifCond .eq 15, 3) := by decide +kernel
theorem dX5_movesToPay_59 : decode cX5_movesToPay 59 = .ok (.iload_n 3, 1) := by decide +kernel
theorem dX5_movesToPay_60 : decode cX5_movesToPay 60 = .ok (.aload_n 0, 1) := by decide +kernel
theorem dX5_movesToPay_61 : decode cX5_movesToPay 61 = .ok (.getfield 9, 3) := by decide +kernel
theorem dX5_movesToPay_64 : decode cX5_movesToPay 64 = .ok (.iload 6, 2) := by decide +kernel
theorem dX5_movesToPay_66 : decode cX5_movesToPay 66 = .ok (.invokevirtual 21, 3) := by decide +kernel
theorem dX5_movesToPay_69 : decode cX5_movesToPay 69 = .ok (.ior, 1) := by decide +kernel
theorem dX5_movesToPay_70 : decode cX5_movesToPay 70 = .ok (.istore_n 3, 1) := by decide +kernel
theorem dX5_movesToPay_71 : decode cX5_movesToPay 71 = .ok (.iinc 6 1, 3) := by decide +kernel
theorem dX5_movesToPay_74 : decode cX5_movesToPay 74 = .ok (.goto (-37), 3) := by decide +kernel
theorem dX5_movesToPay_77 : decode cX5_movesToPay 77 = .ok (.iinc 4 1, 3) := by decide +kernel
theorem dX5_movesToPay_80 : decode cX5_movesToPay 80 = .ok (.goto (-65), 3) := by decide +kernel
theorem dX5_movesToPay_83 : decode cX5_movesToPay 83 = .ok (.iconst (-1), 1) := by decide +kernel
theorem dX5_movesToPay_84 : decode cX5_movesToPay 84 = .ok (.ireturn, 1) := by decide +kernel
theorem dX5_surelyPaid_0 : decode cX5_surelyPaid 0 = .ok (.iconst 1, 1) := by decide +kernel
theorem dX5_surelyPaid_1 : decode cX5_surelyPaid 1 = .ok (.aload_n 0, 1) := by decide +kernel
theorem dX5_surelyPaid_2 : decode cX5_surelyPaid 2 = .ok (.getfield 9, 3) := by decide +kernel
theorem dX5_surelyPaid_5 : decode cX5_surelyPaid 5 = .ok (.getfield 15, 3) := by decide +kernel
theorem dX5_surelyPaid_8 : decode cX5_surelyPaid 8 = .ok (.ishl, 1) := by decide +kernel
theorem dX5_surelyPaid_9 : decode cX5_surelyPaid 9 = .ok (.iconst 1, 1) := by decide +kernel
theorem dX5_surelyPaid_10 : decode cX5_surelyPaid 10 = .ok (.isub, 1) := by decide +kernel
theorem dX5_surelyPaid_11 : decode cX5_surelyPaid 11 = .ok (.istore_n 1, 1) := by decide +kernel
theorem dX5_surelyPaid_12 : decode cX5_surelyPaid 12 = .ok (.iconst (-1), 1) := by decide +kernel
theorem dX5_surelyPaid_13 : decode cX5_surelyPaid 13 = .ok (.istore_n 2, 1) := by decide +kernel
theorem dX5_surelyPaid_14 : decode cX5_surelyPaid 14 = .ok (.iconst 0, 1) := by decide +kernel
theorem dX5_surelyPaid_15 : decode cX5_surelyPaid 15 = .ok (.istore_n 3, 1) := by decide +kernel
theorem dX5_surelyPaid_16 : decode cX5_surelyPaid 16 = .ok (.iload_n 3, 1) := by decide +kernel
theorem dX5_surelyPaid_17 : decode cX5_surelyPaid 17 = .ok (.bipush 12, 2) := by decide +kernel
theorem dX5_surelyPaid_19 : decode cX5_surelyPaid 19 = .ok (.if_icmp .ge 22, 3) := by decide +kernel
theorem dX5_surelyPaid_22 : decode cX5_surelyPaid 22 = .ok (.iload_n 1, 1) := by decide +kernel
theorem dX5_surelyPaid_23 : decode cX5_surelyPaid 23 = .ok (.iload_n 2, 1) := by decide +kernel
theorem dX5_surelyPaid_24 : decode cX5_surelyPaid 24 = .ok (.if_icmp .eq 17, 3) := by decide +kernel
theorem dX5_surelyPaid_27 : decode cX5_surelyPaid 27 = .ok (.iload_n 1, 1) := by decide +kernel
theorem dX5_surelyPaid_28 : decode cX5_surelyPaid 28 = .ok (.istore_n 2, 1) := by decide +kernel
theorem dX5_surelyPaid_29 : decode cX5_surelyPaid 29 = .ok (.aload_n 0, 1) := by decide +kernel
theorem dX5_surelyPaid_30 : decode cX5_surelyPaid 30 = .ok (.iload_n 1, 1) := by decide +kernel
theorem dX5_surelyPaid_31 : decode cX5_surelyPaid 31 = .ok (.invokevirtual 29, 3) := by decide +kernel
theorem dX5_surelyPaid_34 : decode cX5_surelyPaid 34 = .ok (.istore_n 1, 1) := by decide +kernel
theorem dX5_surelyPaid_35 : decode cX5_surelyPaid 35 = .ok (.iinc 3 1, 3) := by decide +kernel
theorem dX5_surelyPaid_38 : decode cX5_surelyPaid 38 = .ok (.goto (-22), 3) := by decide +kernel
theorem dX5_surelyPaid_41 : decode cX5_surelyPaid 41 = .ok (.iload_n 1, 1) := by decide +kernel
theorem dX5_surelyPaid_42 : decode cX5_surelyPaid 42 = .ok (.ireturn, 1) := by decide +kernel
set_option maxHeartbeats 4000000 in
set_option maxRecDepth 100000 in
theorem c_X5_isBroughtToPay (l : Launch) (D : va_G) (g : Nat → ClassId) (rg : Nat) (p0 : Int32) (p1 : Int32) (p2 : Int32) (n : Nat) (n_nodes : Int32) (n_kind : Nat) (n_pay : Nat) (n_name : Nat) (n_ways : Nat) (n_held : Nat) (n_targets : Nat) (n_weights : Nat) (n_fkind : Nat → Int32) (n_fpay : Nat → Int32) (n_fways : Nat → Int32) (n_fheld : Nat → Int32) (n_ftargets : Nat → Int32) (h_p0 : 0 ≤ (p0 : Int32).toInt ∧ (p0 : Int32).toInt ≤ 11) (h_n_nodes : 0 ≤ (n_nodes : Int32).toInt ∧ (n_nodes : Int32).toInt ≤ 12) (h_n_fkind : ∀ j : Nat, 0 ≤ (n_fkind j).toInt ∧ (n_fkind j).toInt ≤ 3) (h_n_fways : ∀ j : Nat, 0 ≤ (n_fways j).toInt ∧ (n_fways j).toInt ≤ 3) (h_n_fheld : ∀ j : Nat, (-1) ≤ (n_fheld j).toInt ∧ (n_fheld j).toInt ≤ 2) (h_n_ftargets : ∀ j : Nat, 0 ≤ (n_ftargets j).toInt ∧ (n_ftargets j).toInt ≤ 11) : Met l yX5_isBroughtToPay (.code yX5_isBroughtToPay cX5_isBroughtToPay 5 (some .boolean) :: wsL_law) ({ frames := 2, cells := 0, slots := 0, locals := 45 }) (va_Pc [.ref rg, .int p0, .int p1, .int p2] (fun U => va_P D vwCl [(wO5 rg n), (wO2 n n_nodes n_kind n_pay n_name n_ways n_held n_targets n_weights), (wI g n_kind 0 12 n_fkind), (wI g n_pay 0 12 n_fpay), (wI g n_ways 0 12 n_fways), (wI g n_held 0 12 n_fheld), (wI g n_targets 0 36 n_ftargets)] U.heap ∧ va_K D vwCl (TY g) U)) (vp_Si (fun r => 0 ≤ (r : Int32).toInt ∧ (r : Int32).toInt ≤ 1)) 0 0 (fun _ => False) := by
  refine Met.ofW (cc := cX5_isBroughtToPay) (maxL := 5) (ret := (some .boolean)) (by decide) rfl ?_
  intro p e s m args below meth c s₁ B hml hv
  obtain ⟨ha, hP, hK⟩ := hv
  have hx := B.exec
  have hb := B.bytes
  have hr := B.returns
  have hts0 := atoms_spec (ws := (.code yX5_isBroughtToPay cX5_isBroughtToPay 5 (some .boolean) :: wsL_law)) B.pre
  have hts : ∀ w ∈ wsL_law, w.before args s = true := fun w h => hts0 w (List.mem_cons_of_mem _ h)
  have hown : s.vm.findClass RX5 = some m.cls := findClass_of_methodNamed B.named
  have hlocks := B.notSynchronized
  have hP : va_P D vwCl [(wO5 rg n), (wO2 n n_nodes n_kind n_pay n_name n_ways n_held n_targets n_weights), (wI g n_kind 0 12 n_fkind), (wI g n_pay 0 12 n_fpay), (wI g n_ways 0 12 n_fways), (wI g n_held 0 12 n_fheld), (wI g n_targets 0 36 n_ftargets)] s.heap := hP
  refine W.eq (g2 := entryFrame m ([.ref rg, .int p0, .int p1, .int p2] : List Value).toArray 5) (by rw [ha]) ?_
  have hl := lv_entry ([.ref rg, .int p0, .int p1, .int p2]) (n := 5) (Nat.le_of_ble_eq_true rfl)
  rw [lg_entry_eq]
  generalize (lg_sl ([.ref rg, .int p0, .int p1, .int p2]) ++ List.replicate (5 - (lg_sl ([.ref rg, .int p0, .int p1, .int p2])).length) Slot.unset).toArray = ls at hl ⊢
  have hl : lv_has ls 5 [(0, .ref rg), (1, .int p0), (2, .int p1), (3, .int p2)] := hl
  refine lv_aload_n hx hb dX5_isBroughtToPay_0 rfl (lv_at hl 0 rfl) ?_
  refine va_get (D := D) (ci := 5) (v := .ref n) (C := RX5) (T := TX5) (N := 1) hx hb hts inlX5 hown hK hP 0 rfl rfl 0 (by decide) (hts (Cond.fieldLink RX5 9 "ChanceRings$Regions" "net" "LChanceRings$Net;") qw_476) (fun _ h9 => h9) rfl dX5_isBroughtToPay_1 ?_
  refine lv_iload_n hx hb dX5_isBroughtToPay_4 rfl (lv_at hl 1 rfl) ?_
  have hPc := hP.sub (ws' := [(wO2 n n_nodes n_kind n_pay n_name n_ways n_held n_targets n_weights), (wI g n_ways 0 12 n_fways), (wI g n_held 0 12 n_fheld), (wI g n_targets 0 36 n_ftargets)]) [1, 4, 5, 6] rfl
  refine vp_callSi (va_Run.run (va_runV (As := [.int p0]) (rest := []) ⟨hx, hb, hml, hown, hts⟩ (c_X2_nextNodes l D g n p0 n_nodes n_kind n_pay n_name n_ways n_held n_targets n_weights n_fways n_fheld n_ftargets (tr_w h_p0 (by decide) (by decide)) (tr_w h_n_nodes (by decide) (by decide)) (tr_wa h_n_fways (by decide) (by decide)) (tr_wa h_n_fheld (by decide) (by decide)) (tr_wa h_n_ftargets (by decide) (by decide))) (cwV 1 hts (tz_gV qw_478 qw_479 qw_480 qw_322 qw_481) rfl rfl rfl (by decide +kernel) ⟨Nat.le_of_ble_eq_true rfl, Nat.le_of_ble_eq_true rfl⟩) ⟨tz_blS, va_recv hK hPc (ci := 2) (q0 := 0) rfl rfl, tz_preS hPc hK⟩ rfl rfl hl.1 rfl (lv_room (Nat.le_of_ble_eq_true rfl)) dX5_isBroughtToPay_5 ⟨Nat.le_of_ble_eq_true rfl, Nat.le_of_ble_eq_true rfl⟩)) (fun r_75236 hw => ?_)
  refine lv_istore (lv' := [(4, .int r_75236), (0, .ref rg), (1, .int p0), (2, .int p1), (3, .int p2)]) hx hb dX5_isBroughtToPay_8 hl (by decide) rfl (fun ls hl => ?_)
  refine lv_aload_n hx hb dX5_isBroughtToPay_10 rfl (lv_at hl 1 rfl) ?_
  refine va_get (D := D) (ci := 5) (v := .ref n) (C := RX5) (T := TX5) (N := 1) hx hb hts inlX5 hown hK hP 0 rfl rfl 0 (by decide) (hts (Cond.fieldLink RX5 9 "ChanceRings$Regions" "net" "LChanceRings$Net;") qw_476) (fun _ h9 => h9) rfl dX5_isBroughtToPay_11 ?_
  refine va_get (D := D) (ci := 2) (v := .ref n_kind) (C := RX2) (T := TX2) (N := 8) hx hb hts inlX2 hown hK hP 1 rfl rfl 1 (by decide) (hts (Cond.fieldLink RX5 25 "ChanceRings$Net" "kind" "[I") qw_482) (fun _ h9 => h9) rfl dX5_isBroughtToPay_14 ?_
  refine lv_iload_n hx hb dX5_isBroughtToPay_17 rfl (lv_at hl 2 rfl) ?_
  refine va_iald hx hb hK hP 2 0 rfl rfl (tr_in h_p0 (by decide) (by decide)) dX5_isBroughtToPay_18 ?_
  refine lv_topi (fun v_75237 v_75237_e => ?_)
  have h_v_75237 : 0 ≤ (v_75237 : Int32).toInt ∧ (v_75237 : Int32).toInt ≤ 3 := by rw [v_75237_e]; exact h_n_fkind _
  by_cases e_75238 : v_75237 = 0
  · skip
    have h_75239 : 0 ≤ (v_75237 : Int32).toInt ∧ (v_75237 : Int32).toInt ≤ 0 := by rw [e_75238]; exact ⟨by decide, by decide⟩
    refine lv_lookup (off := 53) (tgt := 72) hx hb dX5_isBroughtToPay_19 (by decide) (by rw [e_75238]; decide) (by decide) ?_
    refine lv_iload hx hb dX5_isBroughtToPay_72 (lv_at hl 0 rfl) ?_
    refine lv_iload_n hx hb dX5_isBroughtToPay_74 rfl (lv_at hl 3 rfl) ?_
    refine lv_iand hx hb dX5_isBroughtToPay_75 ?_
    refine lv_topi (fun v_75240 v_75240_e => ?_)
    refine lv_if_eq (tgt := 92) hx hb dX5_isBroughtToPay_76 (by decide) (fun c_75241 => ?_) (fun c_75241 => ?_)
    · skip
      have h_75242 : 0 ≤ (v_75240 : Int32).toInt ∧ (v_75240 : Int32).toInt ≤ 0 := by rw [c_75241]; exact ⟨by decide, by decide⟩
      refine lv_iconst (v := 0) hx hb dX5_isBroughtToPay_92 (by decide) ?_
      exact W.zret (v := 0) hx hb hr (by decide) (fun t ht hW => ⟨0, rfl, (⟨by decide, by decide⟩ : 0 ≤ (0 : Int32).toInt ∧ (0 : Int32).toInt ≤ 1), ht⟩) (fun _ h => nomatch h) dX5_isBroughtToPay_93
    · skip
      refine lv_iload hx hb dX5_isBroughtToPay_79 (lv_at hl 0 rfl) ?_
      refine lv_iload_n hx hb dX5_isBroughtToPay_81 rfl (lv_at hl 4 rfl) ?_
      refine lv_iconst (v := (-1)) hx hb dX5_isBroughtToPay_82 (by decide) ?_
      refine lv_ixor hx hb dX5_isBroughtToPay_83 ?_
      refine lv_topi (fun v_75243 v_75243_e => ?_)
      refine lv_iand hx hb dX5_isBroughtToPay_84 ?_
      refine lv_topi (fun v_75244 v_75244_e => ?_)
      refine lv_if_ne (tgt := 92) hx hb dX5_isBroughtToPay_85 (by decide) (fun c_75245 => ?_) (fun c_75245 => ?_)
      · skip
        refine lv_iconst (v := 0) hx hb dX5_isBroughtToPay_92 (by decide) ?_
        exact W.zret (v := 0) hx hb hr (by decide) (fun t ht hW => ⟨0, rfl, (⟨by decide, by decide⟩ : 0 ≤ (0 : Int32).toInt ∧ (0 : Int32).toInt ≤ 1), ht⟩) (fun _ h => nomatch h) dX5_isBroughtToPay_93
      · skip
        have h_75246 : 0 ≤ (v_75244 : Int32).toInt ∧ (v_75244 : Int32).toInt ≤ 0 := by rw [c_75245]; exact ⟨by decide, by decide⟩
        refine lv_iconst (v := 1) hx hb dX5_isBroughtToPay_88 (by decide) ?_
        refine lv_goto (tgt := 93) hx hb dX5_isBroughtToPay_89 (by decide) ?_
        exact W.zret (v := 1) hx hb hr (by decide) (fun t ht hW => ⟨1, rfl, (⟨by decide, by decide⟩ : 0 ≤ (1 : Int32).toInt ∧ (1 : Int32).toInt ≤ 1), ht⟩) (fun _ h => nomatch h) dX5_isBroughtToPay_93
  · have e_75238_n : ¬ (v_75237 : Int32).toInt = 0 := fun q => e_75238 (Int32.toInt_inj.mp (q.trans (by decide)))
    by_cases e_75247 : v_75237 = 1
    · skip
      have h_75248 : 1 ≤ (v_75237 : Int32).toInt ∧ (v_75237 : Int32).toInt ≤ 1 := by rw [e_75247]; exact ⟨by decide, by decide⟩
      refine lv_lookup (off := 25) (tgt := 44) hx hb dX5_isBroughtToPay_19 (by decide) (by rw [e_75247]; decide) (by decide) ?_
      refine lv_iload hx hb dX5_isBroughtToPay_44 (lv_at hl 0 rfl) ?_
      refine lv_iload_n hx hb dX5_isBroughtToPay_46 rfl (lv_at hl 3 rfl) ?_
      refine lv_iand hx hb dX5_isBroughtToPay_47 ?_
      refine lv_topi (fun v_75249 v_75249_e => ?_)
      refine lv_if_eq (tgt := 55) hx hb dX5_isBroughtToPay_48 (by decide) (fun c_75250 => ?_) (fun c_75250 => ?_)
      · skip
        have h_75251 : 0 ≤ (v_75249 : Int32).toInt ∧ (v_75249 : Int32).toInt ≤ 0 := by rw [c_75250]; exact ⟨by decide, by decide⟩
        refine lv_iconst (v := 0) hx hb dX5_isBroughtToPay_55 (by decide) ?_
        exact W.zret (v := 0) hx hb hr (by decide) (fun t ht hW => ⟨0, rfl, (⟨by decide, by decide⟩ : 0 ≤ (0 : Int32).toInt ∧ (0 : Int32).toInt ≤ 1), ht⟩) (fun _ h => nomatch h) dX5_isBroughtToPay_56
      · skip
        refine lv_iconst (v := 1) hx hb dX5_isBroughtToPay_51 (by decide) ?_
        refine lv_goto (tgt := 56) hx hb dX5_isBroughtToPay_52 (by decide) ?_
        exact W.zret (v := 1) hx hb hr (by decide) (fun t ht hW => ⟨1, rfl, (⟨by decide, by decide⟩ : 0 ≤ (1 : Int32).toInt ∧ (1 : Int32).toInt ≤ 1), ht⟩) (fun _ h => nomatch h) dX5_isBroughtToPay_56
    · have e_75247_n : ¬ (v_75237 : Int32).toInt = 1 := fun q => e_75247 (Int32.toInt_inj.mp (q.trans (by decide)))
      by_cases e_75252 : v_75237 = 2
      · skip
        have h_75253 : 2 ≤ (v_75237 : Int32).toInt ∧ (v_75237 : Int32).toInt ≤ 2 := by rw [e_75252]; exact ⟨by decide, by decide⟩
        refine lv_lookup (off := 38) (tgt := 57) hx hb dX5_isBroughtToPay_19 (by decide) (by rw [e_75252]; decide) (by decide) ?_
        refine lv_iload hx hb dX5_isBroughtToPay_57 (lv_at hl 0 rfl) ?_
        refine lv_iload_n hx hb dX5_isBroughtToPay_59 rfl (lv_at hl 3 rfl) ?_
        refine lv_iconst (v := (-1)) hx hb dX5_isBroughtToPay_60 (by decide) ?_
        refine lv_ixor hx hb dX5_isBroughtToPay_61 ?_
        refine lv_topi (fun v_75254 v_75254_e => ?_)
        refine lv_iand hx hb dX5_isBroughtToPay_62 ?_
        refine lv_topi (fun v_75255 v_75255_e => ?_)
        refine lv_if_ne (tgt := 70) hx hb dX5_isBroughtToPay_63 (by decide) (fun c_75256 => ?_) (fun c_75256 => ?_)
        · skip
          refine lv_iconst (v := 0) hx hb dX5_isBroughtToPay_70 (by decide) ?_
          exact W.zret (v := 0) hx hb hr (by decide) (fun t ht hW => ⟨0, rfl, (⟨by decide, by decide⟩ : 0 ≤ (0 : Int32).toInt ∧ (0 : Int32).toInt ≤ 1), ht⟩) (fun _ h => nomatch h) dX5_isBroughtToPay_71
        · skip
          have h_75257 : 0 ≤ (v_75255 : Int32).toInt ∧ (v_75255 : Int32).toInt ≤ 0 := by rw [c_75256]; exact ⟨by decide, by decide⟩
          refine lv_iconst (v := 1) hx hb dX5_isBroughtToPay_66 (by decide) ?_
          refine lv_goto (tgt := 71) hx hb dX5_isBroughtToPay_67 (by decide) ?_
          exact W.zret (v := 1) hx hb hr (by decide) (fun t ht hW => ⟨1, rfl, (⟨by decide, by decide⟩ : 0 ≤ (1 : Int32).toInt ∧ (1 : Int32).toInt ≤ 1), ht⟩) (fun _ h => nomatch h) dX5_isBroughtToPay_71
      · have e_75252_n : ¬ (v_75237 : Int32).toInt = 2 := fun q => e_75252 (Int32.toInt_inj.mp (q.trans (by decide)))
        have e_75258 : v_75237 = 3 := Int32.toInt_inj.mp (((by have q1 := h_v_75237; omega) : (v_75237 : Int32).toInt = 3).trans (by decide))
        have h_75259 : 3 ≤ (v_75237 : Int32).toInt ∧ (v_75237 : Int32).toInt ≤ 3 := by rw [e_75258]; exact ⟨by decide, by decide⟩
        refine lv_lookup (off := 53) (tgt := 72) hx hb dX5_isBroughtToPay_19 (by decide) (by rw [e_75258]; decide) (by decide) ?_
        refine lv_iload hx hb dX5_isBroughtToPay_72 (lv_at hl 0 rfl) ?_
        refine lv_iload_n hx hb dX5_isBroughtToPay_74 rfl (lv_at hl 3 rfl) ?_
        refine lv_iand hx hb dX5_isBroughtToPay_75 ?_
        refine lv_topi (fun v_75260 v_75260_e => ?_)
        refine lv_if_eq (tgt := 92) hx hb dX5_isBroughtToPay_76 (by decide) (fun c_75261 => ?_) (fun c_75261 => ?_)
        · skip
          have h_75262 : 0 ≤ (v_75260 : Int32).toInt ∧ (v_75260 : Int32).toInt ≤ 0 := by rw [c_75261]; exact ⟨by decide, by decide⟩
          refine lv_iconst (v := 0) hx hb dX5_isBroughtToPay_92 (by decide) ?_
          exact W.zret (v := 0) hx hb hr (by decide) (fun t ht hW => ⟨0, rfl, (⟨by decide, by decide⟩ : 0 ≤ (0 : Int32).toInt ∧ (0 : Int32).toInt ≤ 1), ht⟩) (fun _ h => nomatch h) dX5_isBroughtToPay_93
        · skip
          refine lv_iload hx hb dX5_isBroughtToPay_79 (lv_at hl 0 rfl) ?_
          refine lv_iload_n hx hb dX5_isBroughtToPay_81 rfl (lv_at hl 4 rfl) ?_
          refine lv_iconst (v := (-1)) hx hb dX5_isBroughtToPay_82 (by decide) ?_
          refine lv_ixor hx hb dX5_isBroughtToPay_83 ?_
          refine lv_topi (fun v_75263 v_75263_e => ?_)
          refine lv_iand hx hb dX5_isBroughtToPay_84 ?_
          refine lv_topi (fun v_75264 v_75264_e => ?_)
          refine lv_if_ne (tgt := 92) hx hb dX5_isBroughtToPay_85 (by decide) (fun c_75265 => ?_) (fun c_75265 => ?_)
          · skip
            refine lv_iconst (v := 0) hx hb dX5_isBroughtToPay_92 (by decide) ?_
            exact W.zret (v := 0) hx hb hr (by decide) (fun t ht hW => ⟨0, rfl, (⟨by decide, by decide⟩ : 0 ≤ (0 : Int32).toInt ∧ (0 : Int32).toInt ≤ 1), ht⟩) (fun _ h => nomatch h) dX5_isBroughtToPay_93
          · skip
            have h_75266 : 0 ≤ (v_75264 : Int32).toInt ∧ (v_75264 : Int32).toInt ≤ 0 := by rw [c_75265]; exact ⟨by decide, by decide⟩
            refine lv_iconst (v := 1) hx hb dX5_isBroughtToPay_88 (by decide) ?_
            refine lv_goto (tgt := 93) hx hb dX5_isBroughtToPay_89 (by decide) ?_
            exact W.zret (v := 1) hx hb hr (by decide) (fun t ht hW => ⟨1, rfl, (⟨by decide, by decide⟩ : 0 ≤ (1 : Int32).toInt ∧ (1 : Int32).toInt ≤ 1), ht⟩) (fun _ h => nomatch h) dX5_isBroughtToPay_93
set_option maxHeartbeats 4000000 in
set_option maxRecDepth 100000 in
theorem c_X5_broughtToPay (l : Launch) (D : va_G) (g : Nat → ClassId) (rg : Nat) (p0 : Int32) (n : Nat) (n_nodes : Int32) (n_kind : Nat) (n_pay : Nat) (n_name : Nat) (n_ways : Nat) (n_held : Nat) (n_targets : Nat) (n_weights : Nat) (n_fkind : Nat → Int32) (n_fpay : Nat → Int32) (n_fways : Nat → Int32) (n_fheld : Nat → Int32) (n_ftargets : Nat → Int32) (h_n_nodes : 0 ≤ (n_nodes : Int32).toInt ∧ (n_nodes : Int32).toInt ≤ 12) (h_n_fkind : ∀ j : Nat, 0 ≤ (n_fkind j).toInt ∧ (n_fkind j).toInt ≤ 3) (h_n_fways : ∀ j : Nat, 0 ≤ (n_fways j).toInt ∧ (n_fways j).toInt ≤ 3) (h_n_fheld : ∀ j : Nat, (-1) ≤ (n_fheld j).toInt ∧ (n_fheld j).toInt ≤ 2) (h_n_ftargets : ∀ j : Nat, 0 ≤ (n_ftargets j).toInt ∧ (n_ftargets j).toInt ≤ 11) : Met l yX5_broughtToPay (.code yX5_broughtToPay cX5_broughtToPay 6 (some .int) :: wsL_law) ({ frames := 3, cells := 0, slots := 0, locals := 69 }) (va_Pc [.ref rg, .int p0] (fun U => va_P D vwCl [(wO5 rg n), (wO2 n n_nodes n_kind n_pay n_name n_ways n_held n_targets n_weights), (wI g n_kind 0 12 n_fkind), (wI g n_pay 0 12 n_fpay), (wI g n_ways 0 12 n_fways), (wI g n_held 0 12 n_fheld), (wI g n_targets 0 36 n_ftargets)] U.heap ∧ va_K D vwCl (TY g) U)) (vp_Si (fun r => True)) 0 0 (fun _ => False) := by
  refine Met.ofW (cc := cX5_broughtToPay) (maxL := 6) (ret := (some .int)) (by decide) rfl ?_
  intro p e s m args below meth c s₁ B hml hv
  obtain ⟨ha, hP, hK⟩ := hv
  have hx := B.exec
  have hb := B.bytes
  have hr := B.returns
  have hts0 := atoms_spec (ws := (.code yX5_broughtToPay cX5_broughtToPay 6 (some .int) :: wsL_law)) B.pre
  have hts : ∀ w ∈ wsL_law, w.before args s = true := fun w h => hts0 w (List.mem_cons_of_mem _ h)
  have hown : s.vm.findClass RX5 = some m.cls := findClass_of_methodNamed B.named
  have hlocks := B.notSynchronized
  have hP : va_P D vwCl [(wO5 rg n), (wO2 n n_nodes n_kind n_pay n_name n_ways n_held n_targets n_weights), (wI g n_kind 0 12 n_fkind), (wI g n_pay 0 12 n_fpay), (wI g n_ways 0 12 n_fways), (wI g n_held 0 12 n_fheld), (wI g n_targets 0 36 n_ftargets)] s.heap := hP
  refine W.eq (g2 := entryFrame m ([.ref rg, .int p0] : List Value).toArray 6) (by rw [ha]) ?_
  have hl := lv_entry ([.ref rg, .int p0]) (n := 6) (Nat.le_of_ble_eq_true rfl)
  rw [lg_entry_eq]
  generalize (lg_sl ([.ref rg, .int p0]) ++ List.replicate (6 - (lg_sl ([.ref rg, .int p0])).length) Slot.unset).toArray = ls at hl ⊢
  have hl : lv_has ls 6 [(0, .ref rg), (1, .int p0)] := hl
  refine lv_aload_n hx hb dX5_broughtToPay_0 rfl (lv_at hl 0 rfl) ?_
  refine va_get (D := D) (ci := 5) (v := .ref n) (C := RX5) (T := TX5) (N := 1) hx hb hts inlX5 hown hK hP 0 rfl rfl 0 (by decide) (hts (Cond.fieldLink RX5 9 "ChanceRings$Regions" "net" "LChanceRings$Net;") qw_476) (fun _ h9 => h9) rfl dX5_broughtToPay_1 ?_
  have hPc := hP.sub (ws' := [(wO2 n n_nodes n_kind n_pay n_name n_ways n_held n_targets n_weights), (wI g n_kind 0 12 n_fkind), (wI g n_pay 0 12 n_fpay)]) [1, 2, 3] rfl
  refine vp_callSi (va_Run.run (va_runV (As := []) (rest := []) ⟨hx, hb, hml, hown, hts⟩ (c_X2_payingEnds l D g n n_nodes n_kind n_pay n_name n_ways n_held n_targets n_weights n_fkind n_fpay (tr_w h_n_nodes (by decide) (by decide)) (tr_wa h_n_fkind (by decide) (by decide))) (cwV 0 hts (tz_gV qw_504 qw_505 qw_506 qw_322 qw_507) rfl rfl rfl (by decide +kernel) ⟨Nat.le_of_ble_eq_true rfl, Nat.le_of_ble_eq_true rfl⟩) ⟨tz_blS, va_recv hK hPc (ci := 2) (q0 := 0) rfl rfl, tz_preS hPc hK⟩ rfl rfl hl.1 rfl (lv_room (Nat.le_of_ble_eq_true rfl)) dX5_broughtToPay_4 ⟨Nat.le_of_ble_eq_true rfl, Nat.le_of_ble_eq_true rfl⟩)) (fun r_75267 hw => ?_)
  refine lv_istore_n (lv' := [(2, .int r_75267), (0, .ref rg), (1, .int p0)]) hx hb dX5_broughtToPay_7 rfl hl (by decide) rfl (fun ls hl => ?_)
  refine lv_iconst (v := (-1)) hx hb dX5_broughtToPay_8 (by decide) ?_
  refine lv_istore_n (lv' := [(3, .int (-1)), (2, .int r_75267), (0, .ref rg), (1, .int p0)]) hx hb dX5_broughtToPay_9 rfl hl (by decide) rfl (fun ls hl => ?_)
  refine lv_iconst (v := 0) hx hb dX5_broughtToPay_10 (by decide) ?_
  refine lv_istore (lv' := [(4, .int 0), (3, .int (-1)), (2, .int r_75267), (0, .ref rg), (1, .int p0)]) hx hb dX5_broughtToPay_11 hl (by decide) rfl (fun ls hl => ?_)
  have lp_76693 : ∀ (n_76693 : Nat) (x_76690 : Int32) (x_76691 : Int32) (x_76692 : Int32) (ls : Array Slot), (0 ≤ (x_76690 : Int32).toInt ∧ (x_76690 : Int32).toInt ≤ 12) → (12 - x_76690.toInt < (n_76693 : Int)) → lv_has ls 6 [(4, .int x_76690), (3, .int x_76691), (2, .int x_76692), (0, .ref rg), (1, .int p0)] → W p l e (headSpec (.code yX5_broughtToPay cX5_broughtToPay 6 (some .int) :: wsL_law) ({ frames := 3, cells := 0, slots := 0, locals := 69 })).room s m args below meth c s.heap [] 0 0 (MQ below (vp_Si (fun r => True)) args s 0 0 (fun _ => False)) (F0 m 13 ls []) := by
    intro n_76693
    induction n_76693 with
    | zero =>
      intro x_76690 x_76691 x_76692 ls h_x_76690 hm_76693 hl
      exfalso; omega
    | succ n_76693 ih_76693 =>
      intro x_76690 x_76691 x_76692 ls h_x_76690 hm_76693 hl
      refine lv_iload hx hb dX5_broughtToPay_13 (lv_at hl 0 rfl) ?_
      refine lv_bipush (v := 12) hx hb dX5_broughtToPay_15 (by decide) ?_
      refine lv_icmp_ge (tgt := 85) hx hb dX5_broughtToPay_17 (by decide) (fun c_76694 => ?_) (fun c_76694 => ?_)
      · skip
        have c_76694_i := Int32.le_iff_toInt_le.mp c_76694
        have h_76695 : 12 ≤ (x_76690 : Int32).toInt ∧ (x_76690 : Int32).toInt ≤ 12 := nr_le_r (⟨by decide, by decide⟩ : 12 ≤ (12 : Int32).toInt ∧ (12 : Int32).toInt ≤ 12) h_x_76690 c_76694_i (by decide) (by decide)
        refine lv_iload_n hx hb dX5_broughtToPay_85 rfl (lv_at hl 2 rfl) ?_
        exact W.iret (v := x_76692) hx hb hr (fun t ht hW => ⟨x_76692, rfl, trivial, ht⟩) (fun _ h => nomatch h) dX5_broughtToPay_86
      · skip
        have c_76694_i := Int32.lt_iff_toInt_lt.mp (Int32.not_le.mp c_76694)
        have h_76696 : 0 ≤ (x_76690 : Int32).toInt ∧ (x_76690 : Int32).toInt ≤ 11 := nr_lt_l h_x_76690 (⟨by decide, by decide⟩ : 12 ≤ (12 : Int32).toInt ∧ (12 : Int32).toInt ≤ 12) c_76694_i (by decide) (by decide)
        refine lv_iload_n hx hb dX5_broughtToPay_20 rfl (lv_at hl 2 rfl) ?_
        refine lv_iload_n hx hb dX5_broughtToPay_21 rfl (lv_at hl 1 rfl) ?_
        refine lv_icmp_eq (tgt := 85) hx hb dX5_broughtToPay_22 (by decide) (fun c_76697 => ?_) (fun c_76697 => ?_)
        · skip
          refine lv_iload_n hx hb dX5_broughtToPay_85 rfl (lv_at hl 2 rfl) ?_
          exact W.iret (v := x_76692) hx hb hr (fun t ht hW => ⟨x_76692, rfl, trivial, ht⟩) (fun _ h => nomatch h) dX5_broughtToPay_86
        · skip
          refine lv_iload_n hx hb dX5_broughtToPay_25 rfl (lv_at hl 2 rfl) ?_
          refine lv_istore_n (lv' := [(3, .int x_76692), (4, .int x_76690), (2, .int x_76692), (0, .ref rg), (1, .int p0)]) hx hb dX5_broughtToPay_26 rfl hl (by decide) rfl (fun ls hl => ?_)
          refine lv_iconst (v := 0) hx hb dX5_broughtToPay_27 (by decide) ?_
          refine lv_istore (lv' := [(5, .int 0), (3, .int x_76692), (4, .int x_76690), (2, .int x_76692), (0, .ref rg), (1, .int p0)]) hx hb dX5_broughtToPay_28 hl (by decide) rfl (fun ls hl => ?_)
          have lp_76854 : ∀ (n_76854 : Nat) (x_76852 : Int32) (x_76853 : Int32) (ls : Array Slot), (0 ≤ (x_76852 : Int32).toInt ∧ (x_76852 : Int32).toInt ≤ 12) → (12 - x_76852.toInt < (n_76854 : Int)) → lv_has ls 6 [(5, .int x_76852), (3, .int x_76692), (4, .int x_76690), (2, .int x_76853), (0, .ref rg), (1, .int p0)] → W p l e (headSpec (.code yX5_broughtToPay cX5_broughtToPay 6 (some .int) :: wsL_law) ({ frames := 3, cells := 0, slots := 0, locals := 69 })).room s m args below meth c s.heap [] 0 0 (MQ below (vp_Si (fun r => True)) args s 0 0 (fun _ => False)) (F0 m 30 ls []) := by
            intro n_76854
            induction n_76854 with
            | zero =>
              intro x_76852 x_76853 ls h_x_76852 hm_76854 hl
              exfalso; omega
            | succ n_76854 ih_76854 =>
              intro x_76852 x_76853 ls h_x_76852 hm_76854 hl
              refine lv_iload hx hb dX5_broughtToPay_30 (lv_at hl 0 rfl) ?_
              refine lv_aload_n hx hb dX5_broughtToPay_32 rfl (lv_at hl 4 rfl) ?_
              refine va_get (D := D) (ci := 5) (v := .ref n) (C := RX5) (T := TX5) (N := 1) hx hb hts inlX5 hown hK hP 0 rfl rfl 0 (by decide) (hts (Cond.fieldLink RX5 9 "ChanceRings$Regions" "net" "LChanceRings$Net;") qw_476) (fun _ h9 => h9) rfl dX5_broughtToPay_33 ?_
              refine va_get (D := D) (ci := 2) (v := .int n_nodes) (C := RX2) (T := TX2) (N := 8) hx hb hts inlX2 hown hK hP 1 rfl rfl 0 (by decide) (hts (Cond.fieldLink RX5 15 "ChanceRings$Net" "nodes" "I") qw_477) (fun _ h9 => h9) rfl dX5_broughtToPay_36 ?_
              refine lv_icmp_ge (tgt := 79) hx hb dX5_broughtToPay_39 (by decide) (fun c_76855 => ?_) (fun c_76855 => ?_)
              · skip
                obtain ⟨v_76858, v_76858_e⟩ : ∃ y : Int32, y = x_76690 + Int32.ofInt 1 := ⟨_, rfl⟩
                have h_v_76858 : 1 ≤ (v_76858 : Int32).toInt ∧ (v_76858 : Int32).toInt ≤ 12 := by rw [v_76858_e]; exact tr_add h_76696 (⟨by decide, by decide⟩ : 1 ≤ (Int32.ofInt 1 : Int32).toInt ∧ (Int32.ofInt 1 : Int32).toInt ≤ 1) (by decide) (by decide) (by decide) (by decide)
                have q_v_76858 : v_76858.toInt = x_76690.toInt + 1 := by rw [v_76858_e]; exact tr_addE h_76696 (⟨by decide, by decide⟩ : 1 ≤ (Int32.ofInt 1 : Int32).toInt ∧ (Int32.ofInt 1 : Int32).toInt ≤ 1) (by decide) (by decide)
                refine lv_iinc (v := v_76858) (lv' := [(4, .int v_76858), (5, .int x_76852), (3, .int x_76692), (2, .int x_76853), (0, .ref rg), (1, .int p0)]) hx hb dX5_broughtToPay_79 hl (k := 2) rfl v_76858_e.symm (by decide) rfl (fun ls hl => ?_)
                refine lv_goto (tgt := 13) hx hb dX5_broughtToPay_82 (by decide) ?_
                exact ih_76693 v_76858 x_76692 x_76853 ls (tr_w h_v_76858 (by decide) (by decide)) (by omega) (lv_sub hl [0, 2, 3, 4, 5] rfl)
              · skip
                have c_76855_i := Int32.lt_iff_toInt_lt.mp (Int32.not_le.mp c_76855)
                have h_76856 : 0 ≤ (x_76852 : Int32).toInt ∧ (x_76852 : Int32).toInt ≤ 11 := nr_lt_l h_x_76852 h_n_nodes c_76855_i (by decide) (by decide)
                have h_76857 : 1 ≤ (n_nodes : Int32).toInt ∧ (n_nodes : Int32).toInt ≤ 12 := nr_lt_r h_x_76852 h_n_nodes c_76855_i (by decide) (by decide)
                refine lv_aload_n hx hb dX5_broughtToPay_42 rfl (lv_at hl 4 rfl) ?_
                refine va_get (D := D) (ci := 5) (v := .ref n) (C := RX5) (T := TX5) (N := 1) hx hb hts inlX5 hown hK hP 0 rfl rfl 0 (by decide) (hts (Cond.fieldLink RX5 9 "ChanceRings$Regions" "net" "LChanceRings$Net;") qw_476) (fun _ h9 => h9) rfl dX5_broughtToPay_43 ?_
                refine va_get (D := D) (ci := 2) (v := .ref n_kind) (C := RX2) (T := TX2) (N := 8) hx hb hts inlX2 hown hK hP 1 rfl rfl 1 (by decide) (hts (Cond.fieldLink RX5 25 "ChanceRings$Net" "kind" "[I") qw_482) (fun _ h9 => h9) rfl dX5_broughtToPay_46 ?_
                refine lv_iload hx hb dX5_broughtToPay_49 (lv_at hl 0 rfl) ?_
                refine va_iald hx hb hK hP 2 0 rfl rfl (tr_in h_76856 (by decide) (by decide)) dX5_broughtToPay_51 ?_
                refine lv_topi (fun v_76859 v_76859_e => ?_)
                have h_v_76859 : 0 ≤ (v_76859 : Int32).toInt ∧ (v_76859 : Int32).toInt ≤ 3 := by rw [v_76859_e]; exact h_n_fkind _
                refine lv_if_eq (tgt := 73) hx hb dX5_broughtToPay_52 (by decide) (fun c_76860 => ?_) (fun c_76860 => ?_)
                · skip
                  have c_76860_i : (v_76859 : Int32).toInt = (0 : Int32).toInt := congrArg Int32.toInt c_76860
                  have h_76861 : 0 ≤ (v_76859 : Int32).toInt ∧ (v_76859 : Int32).toInt ≤ 0 := nr_eq_l h_v_76859 (⟨by decide, by decide⟩ : 0 ≤ (0 : Int32).toInt ∧ (0 : Int32).toInt ≤ 0) c_76860_i (by decide) (by decide)
                  obtain ⟨v_76863, v_76863_e⟩ : ∃ y : Int32, y = x_76852 + Int32.ofInt 1 := ⟨_, rfl⟩
                  have h_v_76863 : 1 ≤ (v_76863 : Int32).toInt ∧ (v_76863 : Int32).toInt ≤ 12 := by rw [v_76863_e]; exact tr_add h_76856 (⟨by decide, by decide⟩ : 1 ≤ (Int32.ofInt 1 : Int32).toInt ∧ (Int32.ofInt 1 : Int32).toInt ≤ 1) (by decide) (by decide) (by decide) (by decide)
                  have q_v_76863 : v_76863.toInt = x_76852.toInt + 1 := by rw [v_76863_e]; exact tr_addE h_76856 (⟨by decide, by decide⟩ : 1 ≤ (Int32.ofInt 1 : Int32).toInt ∧ (Int32.ofInt 1 : Int32).toInt ≤ 1) (by decide) (by decide)
                  refine lv_iinc (v := v_76863) (lv' := [(5, .int v_76863), (3, .int x_76692), (4, .int x_76690), (2, .int x_76853), (0, .ref rg), (1, .int p0)]) hx hb dX5_broughtToPay_73 hl (k := 0) rfl v_76863_e.symm (by decide) rfl (fun ls hl => ?_)
                  refine lv_goto (tgt := 30) hx hb dX5_broughtToPay_76 (by decide) ?_
                  exact ih_76854 v_76863 x_76853 ls (tr_w h_v_76863 (by decide) (by decide)) (by (first | (clear h_x_76690 c_76694_i h_76696 h_v_76859 c_76860_i h_76861; omega) | omega)) (lv_sub hl [0, 1, 2, 3, 4, 5] rfl)
                · skip
                  have c_76860_i : ¬ (v_76859 : Int32).toInt = (0 : Int32).toInt := (fun q => c_76860 (Int32.toInt_inj.mp q))
                  have h_76862 : 1 ≤ (v_76859 : Int32).toInt ∧ (v_76859 : Int32).toInt ≤ 3 := nr_ne_l h_v_76859 (⟨by decide, by decide⟩ : 0 ≤ (0 : Int32).toInt ∧ (0 : Int32).toInt ≤ 0) c_76860_i (by decide) (by decide)
                  refine lv_aload_n hx hb dX5_broughtToPay_55 rfl (lv_at hl 4 rfl) ?_
                  refine lv_iload hx hb dX5_broughtToPay_56 (lv_at hl 0 rfl) ?_
                  refine lv_iload_n hx hb dX5_broughtToPay_58 rfl (lv_at hl 3 rfl) ?_
                  refine lv_iload_n hx hb dX5_broughtToPay_59 rfl (lv_at hl 5 rfl) ?_
                  have hPc := hP.sub (ws' := [(wO5 rg n), (wO2 n n_nodes n_kind n_pay n_name n_ways n_held n_targets n_weights), (wI g n_kind 0 12 n_fkind), (wI g n_pay 0 12 n_fpay), (wI g n_ways 0 12 n_fways), (wI g n_held 0 12 n_fheld), (wI g n_targets 0 36 n_ftargets)]) [0, 1, 2, 3, 4, 5, 6] rfl
                  refine vp_callSi (va_Run.run (va_runV (As := [.int x_76852, .int x_76853, .int p0]) (rest := []) ⟨hx, hb, hml, hown, hts⟩ (c_X5_isBroughtToPay l D g rg x_76852 x_76853 p0 n n_nodes n_kind n_pay n_name n_ways n_held n_targets n_weights n_fkind n_fpay n_fways n_fheld n_ftargets (tr_w h_76856 (by decide) (by decide)) (tr_w h_76857 (by decide) (by decide)) (tr_wa h_n_fkind (by decide) (by decide)) (tr_wa h_n_fways (by decide) (by decide)) (tr_wa h_n_fheld (by decide) (by decide)) (tr_wa h_n_ftargets (by decide) (by decide))) (cwV 3 hts (tz_gV qw_508 qw_509 qw_510 qw_511 qw_512) rfl rfl rfl (by decide +kernel) ⟨Nat.le_of_ble_eq_true rfl, Nat.le_of_ble_eq_true rfl⟩) ⟨tz_blS, va_recv hK hPc (ci := 5) (q0 := 0) rfl rfl, tz_preS hPc hK⟩ rfl rfl hl.1 rfl (lv_room (Nat.le_of_ble_eq_true rfl)) dX5_broughtToPay_60 ⟨Nat.le_of_ble_eq_true rfl, Nat.le_of_ble_eq_true rfl⟩)) (fun r_76864 hw => ?_)
                  have hw_76865 : 0 ≤ (r_76864 : Int32).toInt ∧ (r_76864 : Int32).toInt ≤ 1 := hw
                  refine lv_if_eq (tgt := 73) hx hb dX5_broughtToPay_63 (by decide) (fun c_76866 => ?_) (fun c_76866 => ?_)
                  · skip
                    have c_76866_i : (r_76864 : Int32).toInt = (0 : Int32).toInt := congrArg Int32.toInt c_76866
                    have h_76867 : 0 ≤ (r_76864 : Int32).toInt ∧ (r_76864 : Int32).toInt ≤ 0 := nr_eq_l hw_76865 (⟨by decide, by decide⟩ : 0 ≤ (0 : Int32).toInt ∧ (0 : Int32).toInt ≤ 0) c_76866_i (by decide) (by decide)
                    obtain ⟨v_76869, v_76869_e⟩ : ∃ y : Int32, y = x_76852 + Int32.ofInt 1 := ⟨_, rfl⟩
                    have h_v_76869 : 1 ≤ (v_76869 : Int32).toInt ∧ (v_76869 : Int32).toInt ≤ 12 := by rw [v_76869_e]; exact tr_add h_76856 (⟨by decide, by decide⟩ : 1 ≤ (Int32.ofInt 1 : Int32).toInt ∧ (Int32.ofInt 1 : Int32).toInt ≤ 1) (by decide) (by decide) (by decide) (by decide)
                    have q_v_76869 : v_76869.toInt = x_76852.toInt + 1 := by rw [v_76869_e]; exact tr_addE h_76856 (⟨by decide, by decide⟩ : 1 ≤ (Int32.ofInt 1 : Int32).toInt ∧ (Int32.ofInt 1 : Int32).toInt ≤ 1) (by decide) (by decide)
                    refine lv_iinc (v := v_76869) (lv' := [(5, .int v_76869), (3, .int x_76692), (4, .int x_76690), (2, .int x_76853), (0, .ref rg), (1, .int p0)]) hx hb dX5_broughtToPay_73 hl (k := 0) rfl v_76869_e.symm (by decide) rfl (fun ls hl => ?_)
                    refine lv_goto (tgt := 30) hx hb dX5_broughtToPay_76 (by decide) ?_
                    exact ih_76854 v_76869 x_76853 ls (tr_w h_v_76869 (by decide) (by decide)) (by (first | (clear h_x_76690 c_76694_i h_76696 h_v_76859 c_76860_i h_76862 hw_76865 c_76866_i h_76867; omega) | omega)) (lv_sub hl [0, 1, 2, 3, 4, 5] rfl)
                  · skip
                    have c_76866_i : ¬ (r_76864 : Int32).toInt = (0 : Int32).toInt := (fun q => c_76866 (Int32.toInt_inj.mp q))
                    have h_76868 : 1 ≤ (r_76864 : Int32).toInt ∧ (r_76864 : Int32).toInt ≤ 1 := nr_ne_l hw_76865 (⟨by decide, by decide⟩ : 0 ≤ (0 : Int32).toInt ∧ (0 : Int32).toInt ≤ 0) c_76866_i (by decide) (by decide)
                    refine lv_iload_n hx hb dX5_broughtToPay_66 rfl (lv_at hl 3 rfl) ?_
                    refine lv_iconst (v := 1) hx hb dX5_broughtToPay_67 (by decide) ?_
                    refine lv_iload hx hb dX5_broughtToPay_68 (lv_at hl 0 rfl) ?_
                    refine lv_ishl hx hb dX5_broughtToPay_70 ?_
                    refine lv_topi (fun v_76870 v_76870_e => ?_)
                    refine lv_ior hx hb dX5_broughtToPay_71 ?_
                    refine lv_topi (fun v_76871 v_76871_e => ?_)
                    refine lv_istore_n (lv' := [(2, .int v_76871), (5, .int x_76852), (3, .int x_76692), (4, .int x_76690), (0, .ref rg), (1, .int p0)]) hx hb dX5_broughtToPay_72 rfl hl (by decide) rfl (fun ls hl => ?_)
                    obtain ⟨v_76872, v_76872_e⟩ : ∃ y : Int32, y = x_76852 + Int32.ofInt 1 := ⟨_, rfl⟩
                    have h_v_76872 : 1 ≤ (v_76872 : Int32).toInt ∧ (v_76872 : Int32).toInt ≤ 12 := by rw [v_76872_e]; exact tr_add h_76856 (⟨by decide, by decide⟩ : 1 ≤ (Int32.ofInt 1 : Int32).toInt ∧ (Int32.ofInt 1 : Int32).toInt ≤ 1) (by decide) (by decide) (by decide) (by decide)
                    have q_v_76872 : v_76872.toInt = x_76852.toInt + 1 := by rw [v_76872_e]; exact tr_addE h_76856 (⟨by decide, by decide⟩ : 1 ≤ (Int32.ofInt 1 : Int32).toInt ∧ (Int32.ofInt 1 : Int32).toInt ≤ 1) (by decide) (by decide)
                    refine lv_iinc (v := v_76872) (lv' := [(5, .int v_76872), (2, .int v_76871), (3, .int x_76692), (4, .int x_76690), (0, .ref rg), (1, .int p0)]) hx hb dX5_broughtToPay_73 hl (k := 1) rfl v_76872_e.symm (by decide) rfl (fun ls hl => ?_)
                    refine lv_goto (tgt := 30) hx hb dX5_broughtToPay_76 (by decide) ?_
                    exact ih_76854 v_76872 v_76871 ls (tr_w h_v_76872 (by decide) (by decide)) (by (first | (clear h_x_76690 c_76694_i h_76696 h_v_76859 c_76860_i h_76862 hw_76865 c_76866_i h_76868; omega) | omega)) (lv_sub hl [0, 2, 3, 1, 4, 5] rfl)
          exact lp_76854 13 0 x_76692 ls (⟨by decide, by decide⟩ : 0 ≤ (0 : Int32).toInt ∧ (0 : Int32).toInt ≤ 12) (by decide) (lv_sub hl [0, 1, 2, 3, 4, 5] rfl)
  exact lp_76693 13 0 (-1) r_75267 ls (⟨by decide, by decide⟩ : 0 ≤ (0 : Int32).toInt ∧ (0 : Int32).toInt ≤ 12) (by decide) (lv_sub hl [0, 1, 2, 3, 4] rfl)
set_option maxHeartbeats 4000000 in
set_option maxRecDepth 100000 in
theorem c_X5_surelyPaid (l : Launch) (D : va_G) (g : Nat → ClassId) (rg : Nat) (n : Nat) (n_nodes : Int32) (n_kind : Nat) (n_pay : Nat) (n_name : Nat) (n_ways : Nat) (n_held : Nat) (n_targets : Nat) (n_weights : Nat) (n_fkind : Nat → Int32) (n_fpay : Nat → Int32) (n_fways : Nat → Int32) (n_fheld : Nat → Int32) (n_ftargets : Nat → Int32) (h_n_nodes : 0 ≤ (n_nodes : Int32).toInt ∧ (n_nodes : Int32).toInt ≤ 12) (h_n_fkind : ∀ j : Nat, 0 ≤ (n_fkind j).toInt ∧ (n_fkind j).toInt ≤ 3) (h_n_fways : ∀ j : Nat, 0 ≤ (n_fways j).toInt ∧ (n_fways j).toInt ≤ 3) (h_n_fheld : ∀ j : Nat, (-1) ≤ (n_fheld j).toInt ∧ (n_fheld j).toInt ≤ 2) (h_n_ftargets : ∀ j : Nat, 0 ≤ (n_ftargets j).toInt ∧ (n_ftargets j).toInt ≤ 11) : Met l yX5_surelyPaid (.code yX5_surelyPaid cX5_surelyPaid 4 (some .int) :: wsL_law) ({ frames := 4, cells := 0, slots := 0, locals := 94 }) (va_Pc [.ref rg] (fun U => va_P D vwCl [(wO5 rg n), (wO2 n n_nodes n_kind n_pay n_name n_ways n_held n_targets n_weights), (wI g n_kind 0 12 n_fkind), (wI g n_pay 0 12 n_fpay), (wI g n_ways 0 12 n_fways), (wI g n_held 0 12 n_fheld), (wI g n_targets 0 36 n_ftargets)] U.heap ∧ va_K D vwCl (TY g) U)) (vp_Si (fun r => True)) 0 0 (fun _ => False) := by
  refine Met.ofW (cc := cX5_surelyPaid) (maxL := 4) (ret := (some .int)) (by decide) rfl ?_
  intro p e s m args below meth c s₁ B hml hv
  obtain ⟨ha, hP, hK⟩ := hv
  have hx := B.exec
  have hb := B.bytes
  have hr := B.returns
  have hts0 := atoms_spec (ws := (.code yX5_surelyPaid cX5_surelyPaid 4 (some .int) :: wsL_law)) B.pre
  have hts : ∀ w ∈ wsL_law, w.before args s = true := fun w h => hts0 w (List.mem_cons_of_mem _ h)
  have hown : s.vm.findClass RX5 = some m.cls := findClass_of_methodNamed B.named
  have hlocks := B.notSynchronized
  have hP : va_P D vwCl [(wO5 rg n), (wO2 n n_nodes n_kind n_pay n_name n_ways n_held n_targets n_weights), (wI g n_kind 0 12 n_fkind), (wI g n_pay 0 12 n_fpay), (wI g n_ways 0 12 n_fways), (wI g n_held 0 12 n_fheld), (wI g n_targets 0 36 n_ftargets)] s.heap := hP
  refine W.eq (g2 := entryFrame m ([.ref rg] : List Value).toArray 4) (by rw [ha]) ?_
  have hl := lv_entry ([.ref rg]) (n := 4) (Nat.le_of_ble_eq_true rfl)
  rw [lg_entry_eq]
  generalize (lg_sl ([.ref rg]) ++ List.replicate (4 - (lg_sl ([.ref rg])).length) Slot.unset).toArray = ls at hl ⊢
  have hl : lv_has ls 4 [(0, .ref rg)] := hl
  refine lv_iconst (v := 1) hx hb dX5_surelyPaid_0 (by decide) ?_
  refine lv_aload_n hx hb dX5_surelyPaid_1 rfl (lv_at hl 0 rfl) ?_
  refine va_get (D := D) (ci := 5) (v := .ref n) (C := RX5) (T := TX5) (N := 1) hx hb hts inlX5 hown hK hP 0 rfl rfl 0 (by decide) (hts (Cond.fieldLink RX5 9 "ChanceRings$Regions" "net" "LChanceRings$Net;") qw_476) (fun _ h9 => h9) rfl dX5_surelyPaid_2 ?_
  refine va_get (D := D) (ci := 2) (v := .int n_nodes) (C := RX2) (T := TX2) (N := 8) hx hb hts inlX2 hown hK hP 1 rfl rfl 0 (by decide) (hts (Cond.fieldLink RX5 15 "ChanceRings$Net" "nodes" "I") qw_477) (fun _ h9 => h9) rfl dX5_surelyPaid_5 ?_
  refine lv_ishl hx hb dX5_surelyPaid_8 ?_
  refine lv_topi (fun v_76873 v_76873_e => ?_)
  refine lv_iconst (v := 1) hx hb dX5_surelyPaid_9 (by decide) ?_
  refine lv_isub hx hb dX5_surelyPaid_10 ?_
  refine lv_topi (fun v_76874 v_76874_e => ?_)
  refine lv_istore_n (lv' := [(1, .int v_76874), (0, .ref rg)]) hx hb dX5_surelyPaid_11 rfl hl (by decide) rfl (fun ls hl => ?_)
  refine lv_iconst (v := (-1)) hx hb dX5_surelyPaid_12 (by decide) ?_
  refine lv_istore_n (lv' := [(2, .int (-1)), (1, .int v_76874), (0, .ref rg)]) hx hb dX5_surelyPaid_13 rfl hl (by decide) rfl (fun ls hl => ?_)
  refine lv_iconst (v := 0) hx hb dX5_surelyPaid_14 (by decide) ?_
  refine lv_istore_n (lv' := [(3, .int 0), (2, .int (-1)), (1, .int v_76874), (0, .ref rg)]) hx hb dX5_surelyPaid_15 rfl hl (by decide) rfl (fun ls hl => ?_)
  have lp_76932 : ∀ (n_76932 : Nat) (x_76929 : Int32) (x_76930 : Int32) (x_76931 : Int32) (ls : Array Slot), (0 ≤ (x_76929 : Int32).toInt ∧ (x_76929 : Int32).toInt ≤ 12) → (12 - x_76929.toInt < (n_76932 : Int)) → lv_has ls 4 [(3, .int x_76929), (2, .int x_76930), (1, .int x_76931), (0, .ref rg)] → W p l e (headSpec (.code yX5_surelyPaid cX5_surelyPaid 4 (some .int) :: wsL_law) ({ frames := 4, cells := 0, slots := 0, locals := 94 })).room s m args below meth c s.heap [] 0 0 (MQ below (vp_Si (fun r => True)) args s 0 0 (fun _ => False)) (F0 m 16 ls []) := by
    intro n_76932
    induction n_76932 with
    | zero =>
      intro x_76929 x_76930 x_76931 ls h_x_76929 hm_76932 hl
      exfalso; omega
    | succ n_76932 ih_76932 =>
      intro x_76929 x_76930 x_76931 ls h_x_76929 hm_76932 hl
      refine lv_iload_n hx hb dX5_surelyPaid_16 rfl (lv_at hl 0 rfl) ?_
      refine lv_bipush (v := 12) hx hb dX5_surelyPaid_17 (by decide) ?_
      refine lv_icmp_ge (tgt := 41) hx hb dX5_surelyPaid_19 (by decide) (fun c_76933 => ?_) (fun c_76933 => ?_)
      · skip
        have c_76933_i := Int32.le_iff_toInt_le.mp c_76933
        have h_76934 : 12 ≤ (x_76929 : Int32).toInt ∧ (x_76929 : Int32).toInt ≤ 12 := nr_le_r (⟨by decide, by decide⟩ : 12 ≤ (12 : Int32).toInt ∧ (12 : Int32).toInt ≤ 12) h_x_76929 c_76933_i (by decide) (by decide)
        refine lv_iload_n hx hb dX5_surelyPaid_41 rfl (lv_at hl 2 rfl) ?_
        exact W.iret (v := x_76931) hx hb hr (fun t ht hW => ⟨x_76931, rfl, trivial, ht⟩) (fun _ h => nomatch h) dX5_surelyPaid_42
      · skip
        have c_76933_i := Int32.lt_iff_toInt_lt.mp (Int32.not_le.mp c_76933)
        have h_76935 : 0 ≤ (x_76929 : Int32).toInt ∧ (x_76929 : Int32).toInt ≤ 11 := nr_lt_l h_x_76929 (⟨by decide, by decide⟩ : 12 ≤ (12 : Int32).toInt ∧ (12 : Int32).toInt ≤ 12) c_76933_i (by decide) (by decide)
        refine lv_iload_n hx hb dX5_surelyPaid_22 rfl (lv_at hl 2 rfl) ?_
        refine lv_iload_n hx hb dX5_surelyPaid_23 rfl (lv_at hl 1 rfl) ?_
        refine lv_icmp_eq (tgt := 41) hx hb dX5_surelyPaid_24 (by decide) (fun c_76936 => ?_) (fun c_76936 => ?_)
        · skip
          refine lv_iload_n hx hb dX5_surelyPaid_41 rfl (lv_at hl 2 rfl) ?_
          exact W.iret (v := x_76931) hx hb hr (fun t ht hW => ⟨x_76931, rfl, trivial, ht⟩) (fun _ h => nomatch h) dX5_surelyPaid_42
        · skip
          refine lv_iload_n hx hb dX5_surelyPaid_27 rfl (lv_at hl 2 rfl) ?_
          refine lv_istore_n (lv' := [(2, .int x_76931), (3, .int x_76929), (1, .int x_76931), (0, .ref rg)]) hx hb dX5_surelyPaid_28 rfl hl (by decide) rfl (fun ls hl => ?_)
          refine lv_aload_n hx hb dX5_surelyPaid_29 rfl (lv_at hl 3 rfl) ?_
          refine lv_iload_n hx hb dX5_surelyPaid_30 rfl (lv_at hl 2 rfl) ?_
          have hPc := hP.sub (ws' := [(wO5 rg n), (wO2 n n_nodes n_kind n_pay n_name n_ways n_held n_targets n_weights), (wI g n_kind 0 12 n_fkind), (wI g n_pay 0 12 n_fpay), (wI g n_ways 0 12 n_fways), (wI g n_held 0 12 n_fheld), (wI g n_targets 0 36 n_ftargets)]) [0, 1, 2, 3, 4, 5, 6] rfl
          refine vp_callSi (va_Run.run (va_runV (As := [.int x_76931]) (rest := []) ⟨hx, hb, hml, hown, hts⟩ (c_X5_broughtToPay l D g rg x_76931 n n_nodes n_kind n_pay n_name n_ways n_held n_targets n_weights n_fkind n_fpay n_fways n_fheld n_ftargets (tr_w h_n_nodes (by decide) (by decide)) (tr_wa h_n_fkind (by decide) (by decide)) (tr_wa h_n_fways (by decide) (by decide)) (tr_wa h_n_fheld (by decide) (by decide)) (tr_wa h_n_ftargets (by decide) (by decide))) (cwV 1 hts (tz_gV qw_513 qw_514 qw_515 qw_511 qw_516) rfl rfl rfl (by decide +kernel) ⟨Nat.le_of_ble_eq_true rfl, Nat.le_of_ble_eq_true rfl⟩) ⟨tz_blS, va_recv hK hPc (ci := 5) (q0 := 0) rfl rfl, tz_preS hPc hK⟩ rfl rfl hl.1 rfl (lv_room (Nat.le_of_ble_eq_true rfl)) dX5_surelyPaid_31 ⟨Nat.le_of_ble_eq_true rfl, Nat.le_of_ble_eq_true rfl⟩)) (fun r_76937 hw => ?_)
          refine lv_istore_n (lv' := [(1, .int r_76937), (2, .int x_76931), (3, .int x_76929), (0, .ref rg)]) hx hb dX5_surelyPaid_34 rfl hl (by decide) rfl (fun ls hl => ?_)
          obtain ⟨v_76938, v_76938_e⟩ : ∃ y : Int32, y = x_76929 + Int32.ofInt 1 := ⟨_, rfl⟩
          have h_v_76938 : 1 ≤ (v_76938 : Int32).toInt ∧ (v_76938 : Int32).toInt ≤ 12 := by rw [v_76938_e]; exact tr_add h_76935 (⟨by decide, by decide⟩ : 1 ≤ (Int32.ofInt 1 : Int32).toInt ∧ (Int32.ofInt 1 : Int32).toInt ≤ 1) (by decide) (by decide) (by decide) (by decide)
          have q_v_76938 : v_76938.toInt = x_76929.toInt + 1 := by rw [v_76938_e]; exact tr_addE h_76935 (⟨by decide, by decide⟩ : 1 ≤ (Int32.ofInt 1 : Int32).toInt ∧ (Int32.ofInt 1 : Int32).toInt ≤ 1) (by decide) (by decide)
          refine lv_iinc (v := v_76938) (lv' := [(3, .int v_76938), (1, .int r_76937), (2, .int x_76931), (0, .ref rg)]) hx hb dX5_surelyPaid_35 hl (k := 2) rfl v_76938_e.symm (by decide) rfl (fun ls hl => ?_)
          refine lv_goto (tgt := 16) hx hb dX5_surelyPaid_38 (by decide) ?_
          exact ih_76932 v_76938 x_76931 r_76937 ls (tr_w h_v_76938 (by decide) (by decide)) (by omega) (lv_sub hl [0, 2, 1, 3] rfl)
  exact lp_76932 13 0 (-1) v_76874 ls (⟨by decide, by decide⟩ : 0 ≤ (0 : Int32).toInt ∧ (0 : Int32).toInt ≤ 12) (by decide) (lv_sub hl [0, 1, 2, 3] rfl)
set_option maxHeartbeats 4000000 in
set_option maxRecDepth 100000 in
theorem c_X5_movesToPay (l : Launch) (D : va_G) (g : Nat → ClassId) (rg : Nat) (p0 : Int32) (n : Nat) (n_nodes : Int32) (n_kind : Nat) (n_pay : Nat) (n_name : Nat) (n_ways : Nat) (n_held : Nat) (n_targets : Nat) (n_weights : Nat) (n_fkind : Nat → Int32) (n_fpay : Nat → Int32) (n_fways : Nat → Int32) (n_fheld : Nat → Int32) (n_ftargets : Nat → Int32) (h_p0 : 0 ≤ (p0 : Int32).toInt ∧ (p0 : Int32).toInt ≤ 11) (h_n_nodes : 0 ≤ (n_nodes : Int32).toInt ∧ (n_nodes : Int32).toInt ≤ 12) (h_n_fkind : ∀ j : Nat, 0 ≤ (n_fkind j).toInt ∧ (n_fkind j).toInt ≤ 3) (h_n_fways : ∀ j : Nat, 0 ≤ (n_fways j).toInt ∧ (n_fways j).toInt ≤ 3) (h_n_fheld : ∀ j : Nat, (-1) ≤ (n_fheld j).toInt ∧ (n_fheld j).toInt ≤ 2) (h_n_ftargets : ∀ j : Nat, 0 ≤ (n_ftargets j).toInt ∧ (n_ftargets j).toInt ≤ 11) : Met l yX5_movesToPay (.code yX5_movesToPay cX5_movesToPay 7 (some .int) :: wsL_law) ({ frames := 2, cells := 0, slots := 0, locals := 45 }) (va_Pc [.ref rg, .int p0] (fun U => va_P D vwCl [(wO5 rg n), (wO2 n n_nodes n_kind n_pay n_name n_ways n_held n_targets n_weights), (wI g n_kind 0 12 n_fkind), (wI g n_pay 0 12 n_fpay), (wI g n_ways 0 12 n_fways), (wI g n_held 0 12 n_fheld), (wI g n_targets 0 36 n_ftargets)] U.heap ∧ va_K D vwCl (TY g) U)) (vp_Si (fun r => True)) 0 0 (fun _ => False) := by
  refine Met.ofW (cc := cX5_movesToPay) (maxL := 7) (ret := (some .int)) (by decide) rfl ?_
  intro p e s m args below meth c s₁ B hml hv
  obtain ⟨ha, hP, hK⟩ := hv
  have hx := B.exec
  have hb := B.bytes
  have hr := B.returns
  have hts0 := atoms_spec (ws := (.code yX5_movesToPay cX5_movesToPay 7 (some .int) :: wsL_law)) B.pre
  have hts : ∀ w ∈ wsL_law, w.before args s = true := fun w h => hts0 w (List.mem_cons_of_mem _ h)
  have hown : s.vm.findClass RX5 = some m.cls := findClass_of_methodNamed B.named
  have hlocks := B.notSynchronized
  have hP : va_P D vwCl [(wO5 rg n), (wO2 n n_nodes n_kind n_pay n_name n_ways n_held n_targets n_weights), (wI g n_kind 0 12 n_fkind), (wI g n_pay 0 12 n_fpay), (wI g n_ways 0 12 n_fways), (wI g n_held 0 12 n_fheld), (wI g n_targets 0 36 n_ftargets)] s.heap := hP
  refine W.eq (g2 := entryFrame m ([.ref rg, .int p0] : List Value).toArray 7) (by rw [ha]) ?_
  have hl := lv_entry ([.ref rg, .int p0]) (n := 7) (Nat.le_of_ble_eq_true rfl)
  rw [lg_entry_eq]
  generalize (lg_sl ([.ref rg, .int p0]) ++ List.replicate (7 - (lg_sl ([.ref rg, .int p0])).length) Slot.unset).toArray = ls at hl ⊢
  have hl : lv_has ls 7 [(0, .ref rg), (1, .int p0)] := hl
  refine lv_aload_n hx hb dX5_movesToPay_0 rfl (lv_at hl 0 rfl) ?_
  refine va_get (D := D) (ci := 5) (v := .ref n) (C := RX5) (T := TX5) (N := 1) hx hb hts inlX5 hown hK hP 0 rfl rfl 0 (by decide) (hts (Cond.fieldLink RX5 9 "ChanceRings$Regions" "net" "LChanceRings$Net;") qw_476) (fun _ h9 => h9) rfl dX5_movesToPay_1 ?_
  have hPc := hP.sub (ws' := [(wO2 n n_nodes n_kind n_pay n_name n_ways n_held n_targets n_weights), (wI g n_kind 0 12 n_fkind), (wI g n_pay 0 12 n_fpay)]) [1, 2, 3] rfl
  refine vp_callSi (va_Run.run (va_runV (As := []) (rest := []) ⟨hx, hb, hml, hown, hts⟩ (c_X2_payingEnds l D g n n_nodes n_kind n_pay n_name n_ways n_held n_targets n_weights n_fkind n_fpay (tr_w h_n_nodes (by decide) (by decide)) (tr_wa h_n_fkind (by decide) (by decide))) (cwV 0 hts (tz_gV qw_504 qw_505 qw_506 qw_322 qw_507) rfl rfl rfl (by decide +kernel) ⟨Nat.le_of_ble_eq_true rfl, Nat.le_of_ble_eq_true rfl⟩) ⟨tz_blS, va_recv hK hPc (ci := 2) (q0 := 0) rfl rfl, tz_preS hPc hK⟩ rfl rfl hl.1 rfl (lv_room (Nat.le_of_ble_eq_true rfl)) dX5_movesToPay_4 ⟨Nat.le_of_ble_eq_true rfl, Nat.le_of_ble_eq_true rfl⟩)) (fun r_76939 hw => ?_)
  refine lv_istore_n (lv' := [(2, .int r_76939), (0, .ref rg), (1, .int p0)]) hx hb dX5_movesToPay_7 rfl hl (by decide) rfl (fun ls hl => ?_)
  refine lv_iconst (v := 1) hx hb dX5_movesToPay_8 (by decide) ?_
  refine lv_iload_n hx hb dX5_movesToPay_9 rfl (lv_at hl 2 rfl) ?_
  refine lv_ishl hx hb dX5_movesToPay_10 ?_
  refine lv_topi (fun v_76940 v_76940_e => ?_)
  refine lv_istore_n (lv' := [(3, .int v_76940), (2, .int r_76939), (0, .ref rg), (1, .int p0)]) hx hb dX5_movesToPay_11 rfl hl (by decide) rfl (fun ls hl => ?_)
  refine lv_iconst (v := 0) hx hb dX5_movesToPay_12 (by decide) ?_
  refine lv_istore (lv' := [(4, .int 0), (3, .int v_76940), (2, .int r_76939), (0, .ref rg), (1, .int p0)]) hx hb dX5_movesToPay_13 hl (by decide) rfl (fun ls hl => ?_)
  have lp_77957 : ∀ (n_77957 : Nat) (x_77955 : Int32) (x_77956 : Int32) (ls : Array Slot), (0 ≤ (x_77955 : Int32).toInt ∧ (x_77955 : Int32).toInt ≤ 12) → (12 - x_77955.toInt < (n_77957 : Int)) → lv_has ls 7 [(4, .int x_77955), (3, .int x_77956), (2, .int r_76939), (0, .ref rg), (1, .int p0)] → W p l e (headSpec (.code yX5_movesToPay cX5_movesToPay 7 (some .int) :: wsL_law) ({ frames := 2, cells := 0, slots := 0, locals := 45 })).room s m args below meth c s.heap [] 0 0 (MQ below (vp_Si (fun r => True)) args s 0 0 (fun _ => False)) (F0 m 15 ls []) := by
    intro n_77957
    induction n_77957 with
    | zero =>
      intro x_77955 x_77956 ls h_x_77955 hm_77957 hl
      exfalso; omega
    | succ n_77957 ih_77957 =>
      intro x_77955 x_77956 ls h_x_77955 hm_77957 hl
      refine lv_iload hx hb dX5_movesToPay_15 (lv_at hl 0 rfl) ?_
      refine lv_bipush (v := 12) hx hb dX5_movesToPay_17 (by decide) ?_
      refine lv_icmp_ge (tgt := 83) hx hb dX5_movesToPay_19 (by decide) (fun c_77958 => ?_) (fun c_77958 => ?_)
      · skip
        have c_77958_i := Int32.le_iff_toInt_le.mp c_77958
        have h_77959 : 12 ≤ (x_77955 : Int32).toInt ∧ (x_77955 : Int32).toInt ≤ 12 := nr_le_r (⟨by decide, by decide⟩ : 12 ≤ (12 : Int32).toInt ∧ (12 : Int32).toInt ≤ 12) h_x_77955 c_77958_i (by decide) (by decide)
        refine lv_iconst (v := (-1)) hx hb dX5_movesToPay_83 (by decide) ?_
        exact W.iret (v := (-1)) hx hb hr (fun t ht hW => ⟨(-1), rfl, trivial, ht⟩) (fun _ h => nomatch h) dX5_movesToPay_84
      · skip
        have c_77958_i := Int32.lt_iff_toInt_lt.mp (Int32.not_le.mp c_77958)
        have h_77960 : 0 ≤ (x_77955 : Int32).toInt ∧ (x_77955 : Int32).toInt ≤ 11 := nr_lt_l h_x_77955 (⟨by decide, by decide⟩ : 12 ≤ (12 : Int32).toInt ∧ (12 : Int32).toInt ≤ 12) c_77958_i (by decide) (by decide)
        refine lv_iload_n hx hb dX5_movesToPay_22 rfl (lv_at hl 1 rfl) ?_
        refine lv_iload_n hx hb dX5_movesToPay_23 rfl (lv_at hl 2 rfl) ?_
        refine lv_iand hx hb dX5_movesToPay_24 ?_
        refine lv_topi (fun v_77961 v_77961_e => ?_)
        refine lv_if_eq (tgt := 31) hx hb dX5_movesToPay_25 (by decide) (fun c_77962 => ?_) (fun c_77962 => ?_)
        · skip
          have h_77963 : 0 ≤ (v_77961 : Int32).toInt ∧ (v_77961 : Int32).toInt ≤ 0 := by rw [c_77962]; exact ⟨by decide, by decide⟩
          refine lv_iload_n hx hb dX5_movesToPay_31 rfl (lv_at hl 1 rfl) ?_
          refine lv_istore (lv' := [(5, .int x_77956), (4, .int x_77955), (3, .int x_77956), (2, .int r_76939), (0, .ref rg), (1, .int p0)]) hx hb dX5_movesToPay_32 hl (by decide) rfl (fun ls hl => ?_)
          refine lv_iconst (v := 0) hx hb dX5_movesToPay_34 (by decide) ?_
          refine lv_istore (lv' := [(6, .int 0), (5, .int x_77956), (4, .int x_77955), (3, .int x_77956), (2, .int r_76939), (0, .ref rg), (1, .int p0)]) hx hb dX5_movesToPay_35 hl (by decide) rfl (fun ls hl => ?_)
          have lp_78074 : ∀ (n_78074 : Nat) (x_78072 : Int32) (x_78073 : Int32) (ls : Array Slot), (0 ≤ (x_78072 : Int32).toInt ∧ (x_78072 : Int32).toInt ≤ 12) → (12 - x_78072.toInt < (n_78074 : Int)) → lv_has ls 7 [(6, .int x_78072), (5, .int x_77956), (4, .int x_77955), (3, .int x_78073), (2, .int r_76939), (0, .ref rg), (1, .int p0)] → W p l e (headSpec (.code yX5_movesToPay cX5_movesToPay 7 (some .int) :: wsL_law) ({ frames := 2, cells := 0, slots := 0, locals := 45 })).room s m args below meth c s.heap [] 0 0 (MQ below (vp_Si (fun r => True)) args s 0 0 (fun _ => False)) (F0 m 37 ls []) := by
            intro n_78074
            induction n_78074 with
            | zero =>
              intro x_78072 x_78073 ls h_x_78072 hm_78074 hl
              exfalso; omega
            | succ n_78074 ih_78074 =>
              intro x_78072 x_78073 ls h_x_78072 hm_78074 hl
              refine lv_iload hx hb dX5_movesToPay_37 (lv_at hl 0 rfl) ?_
              refine lv_aload_n hx hb dX5_movesToPay_39 rfl (lv_at hl 5 rfl) ?_
              refine va_get (D := D) (ci := 5) (v := .ref n) (C := RX5) (T := TX5) (N := 1) hx hb hts inlX5 hown hK hP 0 rfl rfl 0 (by decide) (hts (Cond.fieldLink RX5 9 "ChanceRings$Regions" "net" "LChanceRings$Net;") qw_476) (fun _ h9 => h9) rfl dX5_movesToPay_40 ?_
              refine va_get (D := D) (ci := 2) (v := .int n_nodes) (C := RX2) (T := TX2) (N := 8) hx hb hts inlX2 hown hK hP 1 rfl rfl 0 (by decide) (hts (Cond.fieldLink RX5 15 "ChanceRings$Net" "nodes" "I") qw_477) (fun _ h9 => h9) rfl dX5_movesToPay_43 ?_
              refine lv_icmp_ge (tgt := 77) hx hb dX5_movesToPay_46 (by decide) (fun c_78075 => ?_) (fun c_78075 => ?_)
              · skip
                obtain ⟨v_78078, v_78078_e⟩ : ∃ y : Int32, y = x_77955 + Int32.ofInt 1 := ⟨_, rfl⟩
                have h_v_78078 : 1 ≤ (v_78078 : Int32).toInt ∧ (v_78078 : Int32).toInt ≤ 12 := by rw [v_78078_e]; exact tr_add h_77960 (⟨by decide, by decide⟩ : 1 ≤ (Int32.ofInt 1 : Int32).toInt ∧ (Int32.ofInt 1 : Int32).toInt ≤ 1) (by decide) (by decide) (by decide) (by decide)
                have q_v_78078 : v_78078.toInt = x_77955.toInt + 1 := by rw [v_78078_e]; exact tr_addE h_77960 (⟨by decide, by decide⟩ : 1 ≤ (Int32.ofInt 1 : Int32).toInt ∧ (Int32.ofInt 1 : Int32).toInt ≤ 1) (by decide) (by decide)
                refine lv_iinc (v := v_78078) (lv' := [(4, .int v_78078), (6, .int x_78072), (5, .int x_77956), (3, .int x_78073), (2, .int r_76939), (0, .ref rg), (1, .int p0)]) hx hb dX5_movesToPay_77 hl (k := 2) rfl v_78078_e.symm (by decide) rfl (fun ls hl => ?_)
                refine lv_goto (tgt := 15) hx hb dX5_movesToPay_80 (by decide) ?_
                exact ih_77957 v_78078 x_78073 ls (tr_w h_v_78078 (by decide) (by decide)) (by (first | (clear h_p0 h_n_nodes h_77963 h_x_78072; omega) | omega)) (lv_sub hl [0, 3, 4, 5, 6] rfl)
              · skip
                have c_78075_i := Int32.lt_iff_toInt_lt.mp (Int32.not_le.mp c_78075)
                have h_78076 : 0 ≤ (x_78072 : Int32).toInt ∧ (x_78072 : Int32).toInt ≤ 11 := nr_lt_l h_x_78072 h_n_nodes c_78075_i (by decide) (by decide)
                have h_78077 : 1 ≤ (n_nodes : Int32).toInt ∧ (n_nodes : Int32).toInt ≤ 12 := nr_lt_r h_x_78072 h_n_nodes c_78075_i (by decide) (by decide)
                refine lv_iload hx hb dX5_movesToPay_49 (lv_at hl 1 rfl) ?_
                refine lv_iload hx hb dX5_movesToPay_51 (lv_at hl 0 rfl) ?_
                refine lv_ishr hx hb dX5_movesToPay_53 ?_
                refine lv_topi (fun v_78079 v_78079_e => ?_)
                refine lv_iconst (v := 1) hx hb dX5_movesToPay_54 (by decide) ?_
                refine lv_iand hx hb dX5_movesToPay_55 ?_
                refine lv_topi (fun v_78080 v_78080_e => ?_)
                refine lv_if_eq (tgt := 71) hx hb dX5_movesToPay_56 (by decide) (fun c_78081 => ?_) (fun c_78081 => ?_)
                · skip
                  have h_78082 : 0 ≤ (v_78080 : Int32).toInt ∧ (v_78080 : Int32).toInt ≤ 0 := by rw [c_78081]; exact ⟨by decide, by decide⟩
                  obtain ⟨v_78083, v_78083_e⟩ : ∃ y : Int32, y = x_78072 + Int32.ofInt 1 := ⟨_, rfl⟩
                  have h_v_78083 : 1 ≤ (v_78083 : Int32).toInt ∧ (v_78083 : Int32).toInt ≤ 12 := by rw [v_78083_e]; exact tr_add h_78076 (⟨by decide, by decide⟩ : 1 ≤ (Int32.ofInt 1 : Int32).toInt ∧ (Int32.ofInt 1 : Int32).toInt ≤ 1) (by decide) (by decide) (by decide) (by decide)
                  have q_v_78083 : v_78083.toInt = x_78072.toInt + 1 := by rw [v_78083_e]; exact tr_addE h_78076 (⟨by decide, by decide⟩ : 1 ≤ (Int32.ofInt 1 : Int32).toInt ∧ (Int32.ofInt 1 : Int32).toInt ≤ 1) (by decide) (by decide)
                  refine lv_iinc (v := v_78083) (lv' := [(6, .int v_78083), (5, .int x_77956), (4, .int x_77955), (3, .int x_78073), (2, .int r_76939), (0, .ref rg), (1, .int p0)]) hx hb dX5_movesToPay_71 hl (k := 0) rfl v_78083_e.symm (by decide) rfl (fun ls hl => ?_)
                  refine lv_goto (tgt := 37) hx hb dX5_movesToPay_74 (by decide) ?_
                  exact ih_78074 v_78083 x_78073 ls (tr_w h_v_78083 (by decide) (by decide)) (by (first | (clear h_p0 h_x_77955 c_77958_i h_77960 h_77963 h_78082; omega) | omega)) (lv_sub hl [0, 1, 2, 3, 4, 5, 6] rfl)
                · skip
                  refine lv_iload_n hx hb dX5_movesToPay_59 rfl (lv_at hl 3 rfl) ?_
                  refine lv_aload_n hx hb dX5_movesToPay_60 rfl (lv_at hl 5 rfl) ?_
                  refine va_get (D := D) (ci := 5) (v := .ref n) (C := RX5) (T := TX5) (N := 1) hx hb hts inlX5 hown hK hP 0 rfl rfl 0 (by decide) (hts (Cond.fieldLink RX5 9 "ChanceRings$Regions" "net" "LChanceRings$Net;") qw_476) (fun _ h9 => h9) rfl dX5_movesToPay_61 ?_
                  refine lv_iload hx hb dX5_movesToPay_64 (lv_at hl 0 rfl) ?_
                  have hPc := hP.sub (ws' := [(wO2 n n_nodes n_kind n_pay n_name n_ways n_held n_targets n_weights), (wI g n_ways 0 12 n_fways), (wI g n_held 0 12 n_fheld), (wI g n_targets 0 36 n_ftargets)]) [1, 4, 5, 6] rfl
                  refine vp_callSi (va_Run.run (va_runV (As := [.int x_78072]) (rest := [.int x_78073]) ⟨hx, hb, hml, hown, hts⟩ (c_X2_nextNodes l D g n x_78072 n_nodes n_kind n_pay n_name n_ways n_held n_targets n_weights n_fways n_fheld n_ftargets (tr_w h_78076 (by decide) (by decide)) (tr_w h_78077 (by decide) (by decide)) (tr_wa h_n_fways (by decide) (by decide)) (tr_wa h_n_fheld (by decide) (by decide)) (tr_wa h_n_ftargets (by decide) (by decide))) (cwV 1 hts (tz_gV qw_478 qw_479 qw_480 qw_322 qw_481) rfl rfl rfl (by decide +kernel) ⟨Nat.le_of_ble_eq_true rfl, Nat.le_of_ble_eq_true rfl⟩) ⟨tz_blS, va_recv hK hPc (ci := 2) (q0 := 0) rfl rfl, tz_preS hPc hK⟩ rfl rfl hl.1 rfl (lv_room (Nat.le_of_ble_eq_true rfl)) dX5_movesToPay_66 ⟨Nat.le_of_ble_eq_true rfl, Nat.le_of_ble_eq_true rfl⟩)) (fun r_78084 hw => ?_)
                  refine lv_ior hx hb dX5_movesToPay_69 ?_
                  refine lv_topi (fun v_78085 v_78085_e => ?_)
                  refine lv_istore_n (lv' := [(3, .int v_78085), (6, .int x_78072), (5, .int x_77956), (4, .int x_77955), (2, .int r_76939), (0, .ref rg), (1, .int p0)]) hx hb dX5_movesToPay_70 rfl hl (by decide) rfl (fun ls hl => ?_)
                  obtain ⟨v_78086, v_78086_e⟩ : ∃ y : Int32, y = x_78072 + Int32.ofInt 1 := ⟨_, rfl⟩
                  have h_v_78086 : 1 ≤ (v_78086 : Int32).toInt ∧ (v_78086 : Int32).toInt ≤ 12 := by rw [v_78086_e]; exact tr_add h_78076 (⟨by decide, by decide⟩ : 1 ≤ (Int32.ofInt 1 : Int32).toInt ∧ (Int32.ofInt 1 : Int32).toInt ≤ 1) (by decide) (by decide) (by decide) (by decide)
                  have q_v_78086 : v_78086.toInt = x_78072.toInt + 1 := by rw [v_78086_e]; exact tr_addE h_78076 (⟨by decide, by decide⟩ : 1 ≤ (Int32.ofInt 1 : Int32).toInt ∧ (Int32.ofInt 1 : Int32).toInt ≤ 1) (by decide) (by decide)
                  refine lv_iinc (v := v_78086) (lv' := [(6, .int v_78086), (3, .int v_78085), (5, .int x_77956), (4, .int x_77955), (2, .int r_76939), (0, .ref rg), (1, .int p0)]) hx hb dX5_movesToPay_71 hl (k := 1) rfl v_78086_e.symm (by decide) rfl (fun ls hl => ?_)
                  refine lv_goto (tgt := 37) hx hb dX5_movesToPay_74 (by decide) ?_
                  exact ih_78074 v_78086 v_78085 ls (tr_w h_v_78086 (by decide) (by decide)) (by (first | (clear h_p0 h_x_77955 c_77958_i h_77960 h_77963; omega) | omega)) (lv_sub hl [0, 2, 3, 1, 4, 5, 6] rfl)
          exact lp_78074 13 0 x_77956 ls (⟨by decide, by decide⟩ : 0 ≤ (0 : Int32).toInt ∧ (0 : Int32).toInt ≤ 12) (by decide) (lv_sub hl [0, 1, 2, 3, 4, 5, 6] rfl)
        · skip
          refine lv_iload hx hb dX5_movesToPay_28 (lv_at hl 0 rfl) ?_
          exact W.iret (v := x_77955) hx hb hr (fun t ht hW => ⟨x_77955, rfl, trivial, ht⟩) (fun _ h => nomatch h) dX5_movesToPay_30
  exact lp_77957 13 0 v_76940 ls (⟨by decide, by decide⟩ : 0 ≤ (0 : Int32).toInt ∧ (0 : Int32).toInt ≤ 12) (by decide) (lv_sub hl [0, 1, 2, 3, 4] rfl)
set_option maxHeartbeats 4000000 in
set_option maxRecDepth 100000 in
theorem c_X0_lay (l : Launch) (D : va_G) (g : Nat → ClassId) (sz : Nat) (co : Nat) (pl : Nat) (p0 : Int32) (p1 : Int32) (p2 : Int32) (n : Nat) (eq : Nat) (co_place : Nat) (n_nodes : Int32) (n_kind : Nat) (n_pay : Nat) (n_name : Nat) (n_ways : Nat) (n_held : Nat) (n_targets : Nat) (n_weights : Nat) (n_fkind : Nat → Int32) (n_fpay : Nat → Int32) (n_fways : Nat → Int32) (n_fheld : Nat → Int32) (n_ftargets : Nat → Int32) (n_fweights : Nat → Int32) (pcf : Nat → Int32) (eq_rows : Nat) (eq_right : Nat) (ew : Int64) (fr : Nat → Int64) (rr : Nat → Nat) (ct : Nat → Nat → Int64) (plf : Nat → Int32) (h_n_nodes : 0 ≤ (n_nodes : Int32).toInt ∧ (n_nodes : Int32).toInt ≤ 12) (h_n_fkind : ∀ j : Nat, 0 ≤ (n_fkind j).toInt ∧ (n_fkind j).toInt ≤ 3) (h_n_fways : ∀ j : Nat, 0 ≤ (n_fways j).toInt ∧ (n_fways j).toInt ≤ 3) (h_n_fheld : ∀ j : Nat, (-1) ≤ (n_fheld j).toInt ∧ (n_fheld j).toInt ≤ 2) (h_n_ftargets : ∀ j : Nat, 0 ≤ (n_ftargets j).toInt ∧ (n_ftargets j).toInt ≤ 11) (h_pcf : ∀ j : Nat, (-1) ≤ (pcf j).toInt ∧ (pcf j).toInt ≤ 7) (h_plf : ∀ j : Nat, 0 ≤ (plf j).toInt ∧ (plf j).toInt ≤ 2) : Met l yX0_lay (.code yX0_lay cX0_lay 10 (some .int) :: wsL_law) ({ frames := 1, cells := 0, slots := 0, locals := 23 }) (va_Pc [.ref co, .ref pl, .int p0, .int p1, .int p2] (fun U => U.heap.size = sz ∧ va_P D vwCl [(wO0 co n eq co_place), (wO2 n n_nodes n_kind n_pay n_name n_ways n_held n_targets n_weights), (wI g n_kind 0 12 n_fkind), (wI g n_pay 0 12 n_fpay), (wI g n_ways 0 12 n_fways), (wI g n_held 0 12 n_fheld), (wI g n_targets 0 36 n_ftargets), (wI g n_weights 0 36 n_fweights), (wI g co_place 0 12 pcf), (wO1 eq eq_rows eq_right ew), (wJ g eq_right 1 8 fr), (wR g eq_rows 5 8 (fun i => if i < 8 then some (rr i) else none)), (wJ g (rr 0) 1 8 (ct 0)), (wJ g (rr 1) 1 8 (ct 1)), (wJ g (rr 2) 1 8 (ct 2)), (wJ g (rr 3) 1 8 (ct 3)), (wJ g (rr 4) 1 8 (ct 4)), (wJ g (rr 5) 1 8 (ct 5)), (wJ g (rr 6) 1 8 (ct 6)), (wJ g (rr 7) 1 8 (ct 7)), (wI g pl 0 12 plf)] U.heap ∧ va_K D vwCl (TY g) U ∧ va_D (fun _ => True) [(wO0 co n eq co_place), (wO2 n n_nodes n_kind n_pay n_name n_ways n_held n_targets n_weights), (wI g n_kind 0 12 n_fkind), (wI g n_pay 0 12 n_fpay), (wI g n_ways 0 12 n_fways), (wI g n_held 0 12 n_fheld), (wI g n_targets 0 36 n_ftargets), (wI g n_weights 0 36 n_fweights), (wI g co_place 0 12 pcf), (wO1 eq eq_rows eq_right ew), (wJ g eq_right 1 8 fr), (wR g eq_rows 5 8 (fun i => if i < 8 then some (rr i) else none)), (wJ g (rr 0) 1 8 (ct 0)), (wJ g (rr 1) 1 8 (ct 1)), (wJ g (rr 2) 1 8 (ct 2)), (wJ g (rr 3) 1 8 (ct 3)), (wJ g (rr 4) 1 8 (ct 4)), (wJ g (rr 5) 1 8 (ct 5)), (wJ g (rr 6) 1 8 (ct 6)), (wJ g (rr 7) 1 8 (ct 7)), (wI g pl 0 12 plf)])) (va_Qi (fun r (_ : Unit) => 0 ≤ (r : Int32).toInt ∧ (r : Int32).toInt ≤ 8) (fun _ t => ∃ opc : Nat → Int32, ∃ ofr : Nat → Int64, ∃ oct : Nat → Nat → Int64, (∀ j : Nat, (-1) ≤ (opc j).toInt ∧ (opc j).toInt ≤ 7) ∧ va_P D vwCl [(wO0 co n eq co_place), (wO2 n n_nodes n_kind n_pay n_name n_ways n_held n_targets n_weights), (wI g n_kind 0 12 n_fkind), (wI g n_pay 0 12 n_fpay), (wI g n_ways 0 12 n_fways), (wI g n_held 0 12 n_fheld), (wI g n_targets 0 36 n_ftargets), (wI g n_weights 0 36 n_fweights), (wI g co_place 0 12 opc), (wO1 eq eq_rows eq_right ew), (wJ g eq_right 1 8 ofr), (wR g eq_rows 5 8 (fun i => if i < 8 then some (rr i) else none)), (wJ g (rr 0) 1 8 (oct 0)), (wJ g (rr 1) 1 8 (oct 1)), (wJ g (rr 2) 1 8 (oct 2)), (wJ g (rr 3) 1 8 (oct 3)), (wJ g (rr 4) 1 8 (oct 4)), (wJ g (rr 5) 1 8 (oct 5)), (wJ g (rr 6) 1 8 (oct 6)), (wJ g (rr 7) 1 8 (oct 7)), (wI g pl 0 12 plf)] t.heap ∧ va_D (va_A [(wO0 co n eq co_place), (wO2 n n_nodes n_kind n_pay n_name n_ways n_held n_targets n_weights), (wI g n_kind 0 12 n_fkind), (wI g n_pay 0 12 n_fpay), (wI g n_ways 0 12 n_fways), (wI g n_held 0 12 n_fheld), (wI g n_targets 0 36 n_ftargets), (wI g n_weights 0 36 n_fweights), (wI g co_place 0 12 pcf), (wO1 eq eq_rows eq_right ew), (wJ g eq_right 1 8 fr), (wR g eq_rows 5 8 (fun i => if i < 8 then some (rr i) else none)), (wJ g (rr 0) 1 8 (ct 0)), (wJ g (rr 1) 1 8 (ct 1)), (wJ g (rr 2) 1 8 (ct 2)), (wJ g (rr 3) 1 8 (ct 3)), (wJ g (rr 4) 1 8 (ct 4)), (wJ g (rr 5) 1 8 (ct 5)), (wJ g (rr 6) 1 8 (ct 6)), (wJ g (rr 7) 1 8 (ct 7)), (wI g pl 0 12 plf)] sz) [(wO0 co n eq co_place), (wO2 n n_nodes n_kind n_pay n_name n_ways n_held n_targets n_weights), (wI g n_kind 0 12 n_fkind), (wI g n_pay 0 12 n_fpay), (wI g n_ways 0 12 n_fways), (wI g n_held 0 12 n_fheld), (wI g n_targets 0 36 n_ftargets), (wI g n_weights 0 36 n_fweights), (wI g co_place 0 12 opc), (wO1 eq eq_rows eq_right ew), (wJ g eq_right 1 8 ofr), (wR g eq_rows 5 8 (fun i => if i < 8 then some (rr i) else none)), (wJ g (rr 0) 1 8 (oct 0)), (wJ g (rr 1) 1 8 (oct 1)), (wJ g (rr 2) 1 8 (oct 2)), (wJ g (rr 3) 1 8 (oct 3)), (wJ g (rr 4) 1 8 (oct 4)), (wJ g (rr 5) 1 8 (oct 5)), (wJ g (rr 6) 1 8 (oct 6)), (wJ g (rr 7) 1 8 (oct 7)), (wI g pl 0 12 plf)]) (va_A [(wO0 co n eq co_place), (wO2 n n_nodes n_kind n_pay n_name n_ways n_held n_targets n_weights), (wI g n_kind 0 12 n_fkind), (wI g n_pay 0 12 n_fpay), (wI g n_ways 0 12 n_fways), (wI g n_held 0 12 n_fheld), (wI g n_targets 0 36 n_ftargets), (wI g n_weights 0 36 n_fweights), (wI g co_place 0 12 pcf), (wO1 eq eq_rows eq_right ew), (wJ g eq_right 1 8 fr), (wR g eq_rows 5 8 (fun i => if i < 8 then some (rr i) else none)), (wJ g (rr 0) 1 8 (ct 0)), (wJ g (rr 1) 1 8 (ct 1)), (wJ g (rr 2) 1 8 (ct 2)), (wJ g (rr 3) 1 8 (ct 3)), (wJ g (rr 4) 1 8 (ct 4)), (wJ g (rr 5) 1 8 (ct 5)), (wJ g (rr 6) 1 8 (ct 6)), (wJ g (rr 7) 1 8 (ct 7)), (wI g pl 0 12 plf)] sz)) 0 0 (va_A [(wO0 co n eq co_place), (wO2 n n_nodes n_kind n_pay n_name n_ways n_held n_targets n_weights), (wI g n_kind 0 12 n_fkind), (wI g n_pay 0 12 n_fpay), (wI g n_ways 0 12 n_fways), (wI g n_held 0 12 n_fheld), (wI g n_targets 0 36 n_ftargets), (wI g n_weights 0 36 n_fweights), (wI g co_place 0 12 pcf), (wO1 eq eq_rows eq_right ew), (wJ g eq_right 1 8 fr), (wR g eq_rows 5 8 (fun i => if i < 8 then some (rr i) else none)), (wJ g (rr 0) 1 8 (ct 0)), (wJ g (rr 1) 1 8 (ct 1)), (wJ g (rr 2) 1 8 (ct 2)), (wJ g (rr 3) 1 8 (ct 3)), (wJ g (rr 4) 1 8 (ct 4)), (wJ g (rr 5) 1 8 (ct 5)), (wJ g (rr 6) 1 8 (ct 6)), (wJ g (rr 7) 1 8 (ct 7)), (wI g pl 0 12 plf)] sz) := by
  refine Met.ofW (cc := cX0_lay) (maxL := 10) (ret := (some .int)) (by decide) rfl ?_
  intro p e s m args below meth c s₁ B hml hv
  obtain ⟨ha, hsz, hP, hK, hD0⟩ := hv
  have hx := B.exec
  have hb := B.bytes
  have hr := B.returns
  have hts0 := atoms_spec (ws := (.code yX0_lay cX0_lay 10 (some .int) :: wsL_law)) B.pre
  have hts : ∀ w ∈ wsL_law, w.before args s = true := fun w h => hts0 w (List.mem_cons_of_mem _ h)
  have hown : s.vm.findClass RX0 = some m.cls := findClass_of_methodNamed B.named
  have hlocks := B.notSynchronized
  subst hsz
  have hD := hD0.self (sz := s.heap.size)
  generalize hAe : va_A [(wO0 co n eq co_place), (wO2 n n_nodes n_kind n_pay n_name n_ways n_held n_targets n_weights), (wI g n_kind 0 12 n_fkind), (wI g n_pay 0 12 n_fpay), (wI g n_ways 0 12 n_fways), (wI g n_held 0 12 n_fheld), (wI g n_targets 0 36 n_ftargets), (wI g n_weights 0 36 n_fweights), (wI g co_place 0 12 pcf), (wO1 eq eq_rows eq_right ew), (wJ g eq_right 1 8 fr), (wR g eq_rows 5 8 (fun i => if i < 8 then some (rr i) else none)), (wJ g (rr 0) 1 8 (ct 0)), (wJ g (rr 1) 1 8 (ct 1)), (wJ g (rr 2) 1 8 (ct 2)), (wJ g (rr 3) 1 8 (ct 3)), (wJ g (rr 4) 1 8 (ct 4)), (wJ g (rr 5) 1 8 (ct 5)), (wJ g (rr 6) 1 8 (ct 6)), (wJ g (rr 7) 1 8 (ct 7)), (wI g pl 0 12 plf)] s.heap.size = A at hD ⊢
  have hA : ∀ q : Nat, s.heap.size ≤ q → A q := fun q h => by rw [← hAe]; exact Or.inr h
  have hS : va_S A s.heap s.heap [] := va_S.rf
  have hP : va_P D vwCl [(wO0 co n eq co_place), (wO2 n n_nodes n_kind n_pay n_name n_ways n_held n_targets n_weights), (wI g n_kind 0 12 n_fkind), (wI g n_pay 0 12 n_fpay), (wI g n_ways 0 12 n_fways), (wI g n_held 0 12 n_fheld), (wI g n_targets 0 36 n_ftargets), (wI g n_weights 0 36 n_fweights), (wI g co_place 0 12 pcf), (wO1 eq eq_rows eq_right ew), (wJ g eq_right 1 8 fr), (wR g eq_rows 5 8 (fun i => if i < 8 then some (rr i) else none)), (wJ g (rr 0) 1 8 (ct 0)), (wJ g (rr 1) 1 8 (ct 1)), (wJ g (rr 2) 1 8 (ct 2)), (wJ g (rr 3) 1 8 (ct 3)), (wJ g (rr 4) 1 8 (ct 4)), (wJ g (rr 5) 1 8 (ct 5)), (wJ g (rr 6) 1 8 (ct 6)), (wJ g (rr 7) 1 8 (ct 7)), (wI g pl 0 12 plf)] s.heap := hP
  refine W.eq (g2 := entryFrame m ([.ref co, .ref pl, .int p0, .int p1, .int p2] : List Value).toArray 10) (by rw [ha]) ?_
  have hl := lv_entry ([.ref co, .ref pl, .int p0, .int p1, .int p2]) (n := 10) (Nat.le_of_ble_eq_true rfl)
  rw [lg_entry_eq]
  generalize (lg_sl ([.ref co, .ref pl, .int p0, .int p1, .int p2]) ++ List.replicate (10 - (lg_sl ([.ref co, .ref pl, .int p0, .int p1, .int p2])).length) Slot.unset).toArray = ls at hl ⊢
  have hl : lv_has ls 10 [(0, .ref co), (1, .ref pl), (2, .int p0), (3, .int p1), (4, .int p2)] := hl
  refine lv_aload_n hx hb dX0_lay_0 rfl (lv_at hl 0 rfl) ?_
  refine va_get (D := D) (ci := 0) (v := .ref eq) (C := RX0) (T := TX0) (N := 3) hx hb hts inlX0 hown hK hP 0 rfl rfl 1 (by decide) (hts (Cond.fieldLink RX0 12 "ChanceRings$Course" "equations" "LChanceRings$Equations;") qw_517) (fun _ h9 => h9) rfl dX0_lay_1 ?_
  have hPc := hP.sub (ws' := [(wO1 eq eq_rows eq_right ew), (wJ g eq_right 1 8 fr), (wR g eq_rows 5 8 (fun i => if i < 8 then some (rr i) else none)), (wJ g (rr 0) 1 8 (ct 0)), (wJ g (rr 1) 1 8 (ct 1)), (wJ g (rr 2) 1 8 (ct 2)), (wJ g (rr 3) 1 8 (ct 3)), (wJ g (rr 4) 1 8 (ct 4)), (wJ g (rr 5) 1 8 (ct 5)), (wJ g (rr 6) 1 8 (ct 6)), (wJ g (rr 7) 1 8 (ct 7))]) [9, 10, 11, 12, 13, 14, 15, 16, 17, 18, 19] rfl
  have hDc := hD.sub (ws' := [(wO1 eq eq_rows eq_right ew), (wJ g eq_right 1 8 fr), (wR g eq_rows 5 8 (fun i => if i < 8 then some (rr i) else none)), (wJ g (rr 0) 1 8 (ct 0)), (wJ g (rr 1) 1 8 (ct 1)), (wJ g (rr 2) 1 8 (ct 2)), (wJ g (rr 3) 1 8 (ct 3)), (wJ g (rr 4) 1 8 (ct 4)), (wJ g (rr 5) 1 8 (ct 5)), (wJ g (rr 6) 1 8 (ct 6)), (wJ g (rr 7) 1 8 (ct 7))]) [9, 10, 11, 12, 13, 14, 15, 16, 17, 18, 19] (by decide) rfl
  have hFc := va_free (wc := [(wO1 eq eq_rows eq_right ew), (wJ g eq_right 1 8 fr), (wR g eq_rows 5 8 (fun i => if i < 8 then some (rr i) else none)), (wJ g (rr 0) 1 8 (ct 0)), (wJ g (rr 1) 1 8 (ct 1)), (wJ g (rr 2) 1 8 (ct 2)), (wJ g (rr 3) 1 8 (ct 3)), (wJ g (rr 4) 1 8 (ct 4)), (wJ g (rr 5) 1 8 (ct 5)), (wJ g (rr 6) 1 8 (ct 6)), (wJ g (rr 7) 1 8 (ct 7))]) hD hS hA [9, 10, 11, 12, 13, 14, 15, 16, 17, 18, 19] rfl
  refine va_callv (va_runV (As := []) (rest := []) ⟨hx, hb, hml, hown, hts⟩ (c_X1_clear l D g s.heap.size eq eq_rows eq_right ew fr rr ct) (cwV 0 hts (tz_gV qw_518 qw_519 qw_520 qw_502 qw_521) rfl rfl rfl (by decide +kernel) ⟨Nat.le_of_ble_eq_true rfl, Nat.le_of_ble_eq_true rfl⟩) ⟨tz_blQ, va_recv hK hPc (ci := 1) (q0 := 0) rfl rfl, tz_preQ hPc hK hDc⟩ rfl rfl hl.1 rfl (lv_room (Nat.le_of_ble_eq_true rfl)) dX0_lay_4 ⟨Nat.le_of_ble_eq_true rfl, Nat.le_of_ble_eq_true rfl⟩) hS (fun q _ h => hFc q h) hFc (fun u t H1 locs ht hvm hw hB hz1 hk1 hS => ?_)
  obtain ⟨ofr_78088, oct_78089, hP1, hD1⟩ := hB
  rw [ht] at hP1
  obtain ⟨hP, hD⟩ := va_join (wr := [(wO0 co n eq co_place), (wO2 n n_nodes n_kind n_pay n_name n_ways n_held n_targets n_weights), (wI g n_kind 0 12 n_fkind), (wI g n_pay 0 12 n_fpay), (wI g n_ways 0 12 n_fways), (wI g n_held 0 12 n_fheld), (wI g n_targets 0 36 n_ftargets), (wI g n_weights 0 36 n_fweights), (wI g co_place 0 12 pcf), (wI g pl 0 12 plf)]) (w1 := [(wO1 eq eq_rows eq_right ew), (wJ g eq_right 1 8 ofr_78088), (wR g eq_rows 5 8 (fun i => if i < 8 then some (rr i) else none)), (wJ g (rr 0) 1 8 (oct_78089 0)), (wJ g (rr 1) 1 8 (oct_78089 1)), (wJ g (rr 2) 1 8 (oct_78089 2)), (wJ g (rr 3) 1 8 (oct_78089 3)), (wJ g (rr 4) 1 8 (oct_78089 4)), (wJ g (rr 5) 1 8 (oct_78089 5)), (wJ g (rr 6) 1 8 (oct_78089 6)), (wJ g (rr 7) 1 8 (oct_78089 7))]) hP hD [9, 10, 11, 12, 13, 14, 15, 16, 17, 18, 19] [0, 1, 2, 3, 4, 5, 6, 7, 8, 20] rfl rfl (by decide) (by decide) hk1 hFc hP1 hD1
  generalize H1 = H at hP hS ⊢
  have hP : va_P D vwCl [(wO0 co n eq co_place), (wO2 n n_nodes n_kind n_pay n_name n_ways n_held n_targets n_weights), (wI g n_kind 0 12 n_fkind), (wI g n_pay 0 12 n_fpay), (wI g n_ways 0 12 n_fways), (wI g n_held 0 12 n_fheld), (wI g n_targets 0 36 n_ftargets), (wI g n_weights 0 36 n_fweights), (wI g co_place 0 12 pcf), (wI g pl 0 12 plf), (wO1 eq eq_rows eq_right ew), (wJ g eq_right 1 8 ofr_78088), (wR g eq_rows 5 8 (fun i => if i < 8 then some (rr i) else none)), (wJ g (rr 0) 1 8 (oct_78089 0)), (wJ g (rr 1) 1 8 (oct_78089 1)), (wJ g (rr 2) 1 8 (oct_78089 2)), (wJ g (rr 3) 1 8 (oct_78089 3)), (wJ g (rr 4) 1 8 (oct_78089 4)), (wJ g (rr 5) 1 8 (oct_78089 5)), (wJ g (rr 6) 1 8 (oct_78089 6)), (wJ g (rr 7) 1 8 (oct_78089 7))] H := hP
  have hD : va_D A [(wO0 co n eq co_place), (wO2 n n_nodes n_kind n_pay n_name n_ways n_held n_targets n_weights), (wI g n_kind 0 12 n_fkind), (wI g n_pay 0 12 n_fpay), (wI g n_ways 0 12 n_fways), (wI g n_held 0 12 n_fheld), (wI g n_targets 0 36 n_ftargets), (wI g n_weights 0 36 n_fweights), (wI g co_place 0 12 pcf), (wI g pl 0 12 plf), (wO1 eq eq_rows eq_right ew), (wJ g eq_right 1 8 ofr_78088), (wR g eq_rows 5 8 (fun i => if i < 8 then some (rr i) else none)), (wJ g (rr 0) 1 8 (oct_78089 0)), (wJ g (rr 1) 1 8 (oct_78089 1)), (wJ g (rr 2) 1 8 (oct_78089 2)), (wJ g (rr 3) 1 8 (oct_78089 3)), (wJ g (rr 4) 1 8 (oct_78089 4)), (wJ g (rr 5) 1 8 (oct_78089 5)), (wJ g (rr 6) 1 8 (oct_78089 6)), (wJ g (rr 7) 1 8 (oct_78089 7))] := hD
  refine lv_aload_n hx hb dX0_lay_7 rfl (lv_at hl 0 rfl) ?_
  refine lv_iload_n hx hb dX0_lay_8 rfl (lv_at hl 2 rfl) ?_
  have hPc := hP.sub (ws' := [(wO0 co n eq co_place), (wO2 n n_nodes n_kind n_pay n_name n_ways n_held n_targets n_weights), (wI g n_kind 0 12 n_fkind), (wI g co_place 0 12 pcf)]) [0, 1, 2, 8] rfl
  have hDc := hD.sub (ws' := [(wO0 co n eq co_place), (wO2 n n_nodes n_kind n_pay n_name n_ways n_held n_targets n_weights), (wI g n_kind 0 12 n_fkind), (wI g co_place 0 12 pcf)]) [0, 1, 2, 8] (by decide) rfl
  have hFc := va_free (wc := [(wO0 co n eq co_place), (wO2 n n_nodes n_kind n_pay n_name n_ways n_held n_targets n_weights), (wI g n_kind 0 12 n_fkind), (wI g co_place 0 12 pcf)]) hD hS hA [0, 1, 2, 8] rfl
  refine va_calli (va_runV (As := [.int p0]) (rest := []) ⟨hx, hb, hml, hown, hts⟩ (c_X0_placeOpen l D g H.size co p0 n eq co_place n_nodes n_kind n_pay n_name n_ways n_held n_targets n_weights n_fkind pcf (tr_w h_n_nodes (by decide) (by decide)) (tr_wa h_n_fkind (by decide) (by decide)) (tr_wa h_pcf (by decide) (by decide))) (cwV 1 hts (tz_gV qw_522 qw_523 qw_524 qw_490 qw_525) rfl rfl rfl (by decide +kernel) ⟨Nat.le_of_ble_eq_true rfl, Nat.le_of_ble_eq_true rfl⟩) ⟨tz_blQ, va_recv hK hPc (ci := 0) (q0 := 0) rfl rfl, tz_preQ hPc hK hDc⟩ rfl rfl hl.1 rfl (lv_room (Nat.le_of_ble_eq_true rfl)) dX0_lay_9 ⟨Nat.le_of_ble_eq_true rfl, Nat.le_of_ble_eq_true rfl⟩) hS (fun q _ h => hFc q h) hFc (fun r_78090 u t H1 locs ht hvm hw hB hz1 hk1 hS => ?_)
  obtain ⟨opc_78091, hf_78092, hP1, hD1⟩ := hB
  rw [ht] at hP1
  obtain ⟨hP, hD⟩ := va_join (wr := [(wI g n_pay 0 12 n_fpay), (wI g n_ways 0 12 n_fways), (wI g n_held 0 12 n_fheld), (wI g n_targets 0 36 n_ftargets), (wI g n_weights 0 36 n_fweights), (wI g pl 0 12 plf), (wO1 eq eq_rows eq_right ew), (wJ g eq_right 1 8 ofr_78088), (wR g eq_rows 5 8 (fun i => if i < 8 then some (rr i) else none)), (wJ g (rr 0) 1 8 (oct_78089 0)), (wJ g (rr 1) 1 8 (oct_78089 1)), (wJ g (rr 2) 1 8 (oct_78089 2)), (wJ g (rr 3) 1 8 (oct_78089 3)), (wJ g (rr 4) 1 8 (oct_78089 4)), (wJ g (rr 5) 1 8 (oct_78089 5)), (wJ g (rr 6) 1 8 (oct_78089 6)), (wJ g (rr 7) 1 8 (oct_78089 7))]) (w1 := [(wO0 co n eq co_place), (wO2 n n_nodes n_kind n_pay n_name n_ways n_held n_targets n_weights), (wI g n_kind 0 12 n_fkind), (wI g co_place 0 12 opc_78091)]) hP hD [0, 1, 2, 8] [3, 4, 5, 6, 7, 9, 10, 11, 12, 13, 14, 15, 16, 17, 18, 19, 20] rfl rfl (by decide) (by decide) hk1 hFc hP1 hD1
  generalize H1 = H at hP hS ⊢
  have hP : va_P D vwCl [(wI g n_pay 0 12 n_fpay), (wI g n_ways 0 12 n_fways), (wI g n_held 0 12 n_fheld), (wI g n_targets 0 36 n_ftargets), (wI g n_weights 0 36 n_fweights), (wI g pl 0 12 plf), (wO1 eq eq_rows eq_right ew), (wJ g eq_right 1 8 ofr_78088), (wR g eq_rows 5 8 (fun i => if i < 8 then some (rr i) else none)), (wJ g (rr 0) 1 8 (oct_78089 0)), (wJ g (rr 1) 1 8 (oct_78089 1)), (wJ g (rr 2) 1 8 (oct_78089 2)), (wJ g (rr 3) 1 8 (oct_78089 3)), (wJ g (rr 4) 1 8 (oct_78089 4)), (wJ g (rr 5) 1 8 (oct_78089 5)), (wJ g (rr 6) 1 8 (oct_78089 6)), (wJ g (rr 7) 1 8 (oct_78089 7)), (wO0 co n eq co_place), (wO2 n n_nodes n_kind n_pay n_name n_ways n_held n_targets n_weights), (wI g n_kind 0 12 n_fkind), (wI g co_place 0 12 opc_78091)] H := hP
  have hD : va_D A [(wI g n_pay 0 12 n_fpay), (wI g n_ways 0 12 n_fways), (wI g n_held 0 12 n_fheld), (wI g n_targets 0 36 n_ftargets), (wI g n_weights 0 36 n_fweights), (wI g pl 0 12 plf), (wO1 eq eq_rows eq_right ew), (wJ g eq_right 1 8 ofr_78088), (wR g eq_rows 5 8 (fun i => if i < 8 then some (rr i) else none)), (wJ g (rr 0) 1 8 (oct_78089 0)), (wJ g (rr 1) 1 8 (oct_78089 1)), (wJ g (rr 2) 1 8 (oct_78089 2)), (wJ g (rr 3) 1 8 (oct_78089 3)), (wJ g (rr 4) 1 8 (oct_78089 4)), (wJ g (rr 5) 1 8 (oct_78089 5)), (wJ g (rr 6) 1 8 (oct_78089 6)), (wJ g (rr 7) 1 8 (oct_78089 7)), (wO0 co n eq co_place), (wO2 n n_nodes n_kind n_pay n_name n_ways n_held n_targets n_weights), (wI g n_kind 0 12 n_fkind), (wI g co_place 0 12 opc_78091)] := hD
  have hw_78093 : 0 ≤ (r_78090 : Int32).toInt ∧ (r_78090 : Int32).toInt ≤ 8 := hw
  refine lv_istore (lv' := [(5, .int r_78090), (0, .ref co), (1, .ref pl), (2, .int p0), (3, .int p1), (4, .int p2)]) hx hb dX0_lay_12 hl (by decide) rfl (fun ls hl => ?_)
  refine lv_iconst (v := 0) hx hb dX0_lay_14 (by decide) ?_
  refine lv_istore (lv' := [(6, .int 0), (5, .int r_78090), (0, .ref co), (1, .ref pl), (2, .int p0), (3, .int p1), (4, .int p2)]) hx hb dX0_lay_15 hl (by decide) rfl (fun ls hl => ?_)
  have lp_79056 : ∀ (n_79056 : Nat) (x_79054 : Int32) (ct_79055 : Nat → Nat → Int64) (H : Heap) (locs : List Loc) (ls : Array Slot), (0 ≤ (x_79054 : Int32).toInt ∧ (x_79054 : Int32).toInt ≤ 12) → (12 - x_79054.toInt < (n_79056 : Int)) → va_P D vwCl [(wI g n_pay 0 12 n_fpay), (wI g n_ways 0 12 n_fways), (wI g n_held 0 12 n_fheld), (wI g n_targets 0 36 n_ftargets), (wI g n_weights 0 36 n_fweights), (wI g pl 0 12 plf), (wO1 eq eq_rows eq_right ew), (wJ g eq_right 1 8 ofr_78088), (wR g eq_rows 5 8 (fun i => if i < 8 then some (rr i) else none)), (wJ g (rr 0) 1 8 (ct_79055 0)), (wJ g (rr 1) 1 8 (ct_79055 1)), (wJ g (rr 2) 1 8 (ct_79055 2)), (wJ g (rr 3) 1 8 (ct_79055 3)), (wJ g (rr 4) 1 8 (ct_79055 4)), (wJ g (rr 5) 1 8 (ct_79055 5)), (wJ g (rr 6) 1 8 (ct_79055 6)), (wJ g (rr 7) 1 8 (ct_79055 7)), (wO0 co n eq co_place), (wO2 n n_nodes n_kind n_pay n_name n_ways n_held n_targets n_weights), (wI g n_kind 0 12 n_fkind), (wI g co_place 0 12 opc_78091)] H → va_D A [(wI g n_pay 0 12 n_fpay), (wI g n_ways 0 12 n_fways), (wI g n_held 0 12 n_fheld), (wI g n_targets 0 36 n_ftargets), (wI g n_weights 0 36 n_fweights), (wI g pl 0 12 plf), (wO1 eq eq_rows eq_right ew), (wJ g eq_right 1 8 ofr_78088), (wR g eq_rows 5 8 (fun i => if i < 8 then some (rr i) else none)), (wJ g (rr 0) 1 8 (ct_79055 0)), (wJ g (rr 1) 1 8 (ct_79055 1)), (wJ g (rr 2) 1 8 (ct_79055 2)), (wJ g (rr 3) 1 8 (ct_79055 3)), (wJ g (rr 4) 1 8 (ct_79055 4)), (wJ g (rr 5) 1 8 (ct_79055 5)), (wJ g (rr 6) 1 8 (ct_79055 6)), (wJ g (rr 7) 1 8 (ct_79055 7)), (wO0 co n eq co_place), (wO2 n n_nodes n_kind n_pay n_name n_ways n_held n_targets n_weights), (wI g n_kind 0 12 n_fkind), (wI g co_place 0 12 opc_78091)] → va_S A s.heap H locs → lv_has ls 10 [(6, .int x_79054), (5, .int r_78090), (0, .ref co), (1, .ref pl), (2, .int p0), (3, .int p1), (4, .int p2)] → W p l e (headSpec (.code yX0_lay cX0_lay 10 (some .int) :: wsL_law) ({ frames := 1, cells := 0, slots := 0, locals := 23 })).room s m args below meth c H locs 0 0 (MQ below (va_Qi (fun r (_ : Unit) => 0 ≤ (r : Int32).toInt ∧ (r : Int32).toInt ≤ 8) (fun _ t => ∃ opc : Nat → Int32, ∃ ofr : Nat → Int64, ∃ oct : Nat → Nat → Int64, (∀ j : Nat, (-1) ≤ (opc j).toInt ∧ (opc j).toInt ≤ 7) ∧ va_P D vwCl [(wO0 co n eq co_place), (wO2 n n_nodes n_kind n_pay n_name n_ways n_held n_targets n_weights), (wI g n_kind 0 12 n_fkind), (wI g n_pay 0 12 n_fpay), (wI g n_ways 0 12 n_fways), (wI g n_held 0 12 n_fheld), (wI g n_targets 0 36 n_ftargets), (wI g n_weights 0 36 n_fweights), (wI g co_place 0 12 opc), (wO1 eq eq_rows eq_right ew), (wJ g eq_right 1 8 ofr), (wR g eq_rows 5 8 (fun i => if i < 8 then some (rr i) else none)), (wJ g (rr 0) 1 8 (oct 0)), (wJ g (rr 1) 1 8 (oct 1)), (wJ g (rr 2) 1 8 (oct 2)), (wJ g (rr 3) 1 8 (oct 3)), (wJ g (rr 4) 1 8 (oct 4)), (wJ g (rr 5) 1 8 (oct 5)), (wJ g (rr 6) 1 8 (oct 6)), (wJ g (rr 7) 1 8 (oct 7)), (wI g pl 0 12 plf)] t.heap ∧ va_D A [(wO0 co n eq co_place), (wO2 n n_nodes n_kind n_pay n_name n_ways n_held n_targets n_weights), (wI g n_kind 0 12 n_fkind), (wI g n_pay 0 12 n_fpay), (wI g n_ways 0 12 n_fways), (wI g n_held 0 12 n_fheld), (wI g n_targets 0 36 n_ftargets), (wI g n_weights 0 36 n_fweights), (wI g co_place 0 12 opc), (wO1 eq eq_rows eq_right ew), (wJ g eq_right 1 8 ofr), (wR g eq_rows 5 8 (fun i => if i < 8 then some (rr i) else none)), (wJ g (rr 0) 1 8 (oct 0)), (wJ g (rr 1) 1 8 (oct 1)), (wJ g (rr 2) 1 8 (oct 2)), (wJ g (rr 3) 1 8 (oct 3)), (wJ g (rr 4) 1 8 (oct 4)), (wJ g (rr 5) 1 8 (oct 5)), (wJ g (rr 6) 1 8 (oct 6)), (wJ g (rr 7) 1 8 (oct 7)), (wI g pl 0 12 plf)]) A) args s 0 0 A) (F0 m 17 ls []) := by
    intro n_79056
    induction n_79056 with
    | zero =>
      intro x_79054 ct_79055 H locs ls h_x_79054 hm_79056 hP hD hS hl
      exfalso; omega
    | succ n_79056 ih_79056 =>
      intro x_79054 ct_79055 H locs ls h_x_79054 hm_79056 hP hD hS hl
      refine lv_iload hx hb dX0_lay_17 (lv_at hl 0 rfl) ?_
      refine lv_aload_n hx hb dX0_lay_19 rfl (lv_at hl 2 rfl) ?_
      refine va_get (D := D) (ci := 0) (v := .ref n) (C := RX0) (T := TX0) (N := 3) hx hb hts inlX0 hown hK hP 17 rfl rfl 0 (by decide) (hts (Cond.fieldLink RX0 22 "ChanceRings$Course" "net" "LChanceRings$Net;") qw_483) (fun _ h9 => h9) rfl dX0_lay_20 ?_
      refine va_get (D := D) (ci := 2) (v := .int n_nodes) (C := RX2) (T := TX2) (N := 8) hx hb hts inlX2 hown hK hP 18 rfl rfl 0 (by decide) (hts (Cond.fieldLink RX0 49 "ChanceRings$Net" "nodes" "I") qw_493) (fun _ h9 => h9) rfl dX0_lay_23 ?_
      refine lv_icmp_ge (tgt := 154) hx hb dX0_lay_26 (by decide) (fun c_79057 => ?_) (fun c_79057 => ?_)
      · skip
        refine lv_iload hx hb dX0_lay_154 (lv_at hl 1 rfl) ?_
        have hP9 := hP.sub (ws' := [(wO0 co n eq co_place), (wO2 n n_nodes n_kind n_pay n_name n_ways n_held n_targets n_weights), (wI g n_kind 0 12 n_fkind), (wI g n_pay 0 12 n_fpay), (wI g n_ways 0 12 n_fways), (wI g n_held 0 12 n_fheld), (wI g n_targets 0 36 n_ftargets), (wI g n_weights 0 36 n_fweights), (wI g co_place 0 12 opc_78091), (wO1 eq eq_rows eq_right ew), (wJ g eq_right 1 8 ofr_78088), (wR g eq_rows 5 8 (fun i => if i < 8 then some (rr i) else none)), (wJ g (rr 0) 1 8 (ct_79055 0)), (wJ g (rr 1) 1 8 (ct_79055 1)), (wJ g (rr 2) 1 8 (ct_79055 2)), (wJ g (rr 3) 1 8 (ct_79055 3)), (wJ g (rr 4) 1 8 (ct_79055 4)), (wJ g (rr 5) 1 8 (ct_79055 5)), (wJ g (rr 6) 1 8 (ct_79055 6)), (wJ g (rr 7) 1 8 (ct_79055 7)), (wI g pl 0 12 plf)]) [17, 18, 19, 0, 1, 2, 3, 4, 20, 6, 7, 8, 9, 10, 11, 12, 13, 14, 15, 16, 5] rfl
        have hD9 := hD.sub (ws' := [(wO0 co n eq co_place), (wO2 n n_nodes n_kind n_pay n_name n_ways n_held n_targets n_weights), (wI g n_kind 0 12 n_fkind), (wI g n_pay 0 12 n_fpay), (wI g n_ways 0 12 n_fways), (wI g n_held 0 12 n_fheld), (wI g n_targets 0 36 n_ftargets), (wI g n_weights 0 36 n_fweights), (wI g co_place 0 12 opc_78091), (wO1 eq eq_rows eq_right ew), (wJ g eq_right 1 8 ofr_78088), (wR g eq_rows 5 8 (fun i => if i < 8 then some (rr i) else none)), (wJ g (rr 0) 1 8 (ct_79055 0)), (wJ g (rr 1) 1 8 (ct_79055 1)), (wJ g (rr 2) 1 8 (ct_79055 2)), (wJ g (rr 3) 1 8 (ct_79055 3)), (wJ g (rr 4) 1 8 (ct_79055 4)), (wJ g (rr 5) 1 8 (ct_79055 5)), (wJ g (rr 6) 1 8 (ct_79055 6)), (wJ g (rr 7) 1 8 (ct_79055 7)), (wI g pl 0 12 plf)]) [17, 18, 19, 0, 1, 2, 3, 4, 20, 6, 7, 8, 9, 10, 11, 12, 13, 14, 15, 16, 5] (by decide) rfl
        exact W.iret (v := r_78090) hx hb hr (fun t ht hW => ⟨⟨r_78090, (), rfl, (tr_w hw_78093 (by decide) (by decide)), opc_78091, ofr_78088, ct_79055, (tr_wa hf_78092 (by decide) (by decide)), by rw [ht]; exact hP9, hD9⟩, hS.F ht⟩) hS.2.2 dX0_lay_156
      · skip
        have c_79057_i := Int32.lt_iff_toInt_lt.mp (Int32.not_le.mp c_79057)
        have h_79058 : 0 ≤ (x_79054 : Int32).toInt ∧ (x_79054 : Int32).toInt ≤ 11 := nr_lt_l h_x_79054 h_n_nodes c_79057_i (by decide) (by decide)
        have h_79059 : 1 ≤ (n_nodes : Int32).toInt ∧ (n_nodes : Int32).toInt ≤ 12 := nr_lt_r h_x_79054 h_n_nodes c_79057_i (by decide) (by decide)
        refine lv_aload_n hx hb dX0_lay_29 rfl (lv_at hl 2 rfl) ?_
        refine va_get (D := D) (ci := 0) (v := .ref co_place) (C := RX0) (T := TX0) (N := 3) hx hb hts inlX0 hown hK hP 17 rfl rfl 2 (by decide) (hts (Cond.fieldLink RX0 18 "ChanceRings$Course" "place" "[I") qw_494) (fun _ h9 => h9) rfl dX0_lay_30 ?_
        refine lv_iload hx hb dX0_lay_33 (lv_at hl 0 rfl) ?_
        refine va_iald hx hb hK hP 20 0 rfl rfl (tr_in h_79058 (by decide) (by decide)) dX0_lay_35 ?_
        refine lv_topi (fun v_79060 v_79060_e => ?_)
        have h_v_79060 : (-1) ≤ (v_79060 : Int32).toInt ∧ (v_79060 : Int32).toInt ≤ 7 := by rw [v_79060_e]; exact hf_78092 _
        refine lv_istore (lv' := [(7, .int v_79060), (6, .int x_79054), (5, .int r_78090), (0, .ref co), (1, .ref pl), (2, .int p0), (3, .int p1), (4, .int p2)]) hx hb dX0_lay_36 hl (by decide) rfl (fun ls hl => ?_)
        refine lv_iload hx hb dX0_lay_38 (lv_at hl 0 rfl) ?_
        refine lv_iconst (v := (-1)) hx hb dX0_lay_40 (by decide) ?_
        refine lv_icmp_eq (tgt := 148) hx hb dX0_lay_41 (by decide) (fun c_79061 => ?_) (fun c_79061 => ?_)
        · skip
          have c_79061_i : (v_79060 : Int32).toInt = ((-1) : Int32).toInt := congrArg Int32.toInt c_79061
          have h_79062 : (-1) ≤ (v_79060 : Int32).toInt ∧ (v_79060 : Int32).toInt ≤ (-1) := nr_eq_l h_v_79060 (⟨by decide, by decide⟩ : (-1) ≤ ((-1) : Int32).toInt ∧ ((-1) : Int32).toInt ≤ (-1)) c_79061_i (by decide) (by decide)
          obtain ⟨v_79064, v_79064_e⟩ : ∃ y : Int32, y = x_79054 + Int32.ofInt 1 := ⟨_, rfl⟩
          have h_v_79064 : 1 ≤ (v_79064 : Int32).toInt ∧ (v_79064 : Int32).toInt ≤ 12 := by rw [v_79064_e]; exact tr_add h_79058 (⟨by decide, by decide⟩ : 1 ≤ (Int32.ofInt 1 : Int32).toInt ∧ (Int32.ofInt 1 : Int32).toInt ≤ 1) (by decide) (by decide) (by decide) (by decide)
          have q_v_79064 : v_79064.toInt = x_79054.toInt + 1 := by rw [v_79064_e]; exact tr_addE h_79058 (⟨by decide, by decide⟩ : 1 ≤ (Int32.ofInt 1 : Int32).toInt ∧ (Int32.ofInt 1 : Int32).toInt ≤ 1) (by decide) (by decide)
          refine lv_iinc (v := v_79064) (lv' := [(6, .int v_79064), (7, .int v_79060), (5, .int r_78090), (0, .ref co), (1, .ref pl), (2, .int p0), (3, .int p1), (4, .int p2)]) hx hb dX0_lay_148 hl (k := 1) rfl v_79064_e.symm (by decide) rfl (fun ls hl => ?_)
          refine lv_goto (tgt := 17) hx hb dX0_lay_151 (by decide) ?_
          exact ih_79056 v_79064 ct_79055 H _ ls (tr_w h_v_79064 (by decide) (by decide)) (by (first | (clear hw_78093 h_v_79060 c_79061_i h_79062; omega) | omega)) (hP.sub [0, 1, 2, 3, 4, 5, 6, 7, 8, 9, 10, 11, 12, 13, 14, 15, 16, 17, 18, 19, 20] rfl) (hD.sub [0, 1, 2, 3, 4, 5, 6, 7, 8, 9, 10, 11, 12, 13, 14, 15, 16, 17, 18, 19, 20] (by decide) rfl) hS (lv_sub hl [0, 2, 3, 4, 5, 6, 7] rfl)
        · skip
          have c_79061_i : ¬ (v_79060 : Int32).toInt = ((-1) : Int32).toInt := (fun q => c_79061 (Int32.toInt_inj.mp q))
          have h_79063 : 0 ≤ (v_79060 : Int32).toInt ∧ (v_79060 : Int32).toInt ≤ 7 := nr_ne_l h_v_79060 (⟨by decide, by decide⟩ : (-1) ≤ ((-1) : Int32).toInt ∧ ((-1) : Int32).toInt ≤ (-1)) c_79061_i (by decide) (by decide)
          refine lv_aload_n hx hb dX0_lay_44 rfl (lv_at hl 3 rfl) ?_
          refine va_get (D := D) (ci := 0) (v := .ref eq) (C := RX0) (T := TX0) (N := 3) hx hb hts inlX0 hown hK hP 17 rfl rfl 1 (by decide) (hts (Cond.fieldLink RX0 12 "ChanceRings$Course" "equations" "LChanceRings$Equations;") qw_517) (fun _ h9 => h9) rfl dX0_lay_45 ?_
          refine va_get (D := D) (ci := 1) (v := .ref eq_rows) (C := RX1) (T := TX1) (N := 3) hx hb hts inlX1 hown hK hP 6 rfl rfl 0 (by decide) (hts (Cond.fieldLink RX0 87 "ChanceRings$Equations" "rows" "[[J") qw_526) (fun _ h9 => h9) rfl dX0_lay_48 ?_
          refine lv_iload hx hb dX0_lay_51 (lv_at hl 0 rfl) ?_
          refine va_ald2 hx hb hK hP 8 5 rfl rfl (tr_in h_79063 (by decide) (by decide)) dX0_lay_53 ?_
          refine tz_v (y := .ref (rr (v_79060 : Int32).toNatClampNeg)) (tz_row rfl (tr_cl (tr_in h_79063 (by decide) (by decide)))) ?_
          refine lv_iload hx hb dX0_lay_54 (lv_at hl 0 rfl) ?_
          refine lv_iload hx hb dX0_lay_56 (lv_at hl 7 rfl) ?_
          refine lv_i2l hx hb dX0_lay_58 rfl ?_
          refine lv_topl (fun w_79065 _ => ?_)
          refine lv_aload_n hx hb dX0_lay_59 rfl (lv_at hl 3 rfl) ?_
          refine va_get (D := D) (ci := 0) (v := .ref n) (C := RX0) (T := TX0) (N := 3) hx hb hts inlX0 hown hK hP 17 rfl rfl 0 (by decide) (hts (Cond.fieldLink RX0 22 "ChanceRings$Course" "net" "LChanceRings$Net;") qw_483) (fun _ h9 => h9) rfl dX0_lay_60 ?_
          refine lv_iload hx hb dX0_lay_63 (lv_at hl 1 rfl) ?_
          have hPc := hP.sub (ws' := [(wO2 n n_nodes n_kind n_pay n_name n_ways n_held n_targets n_weights), (wI g n_kind 0 12 n_fkind), (wI g n_ways 0 12 n_fways), (wI g n_weights 0 36 n_fweights)]) [18, 19, 1, 4] rfl
          refine vp_callSi (va_Run.run (va_runV (As := [.int x_79054]) (rest := [.long w_79065, .int v_79060, .ref (rr (v_79060 : Int32).toNatClampNeg)]) ⟨hx, hb, hml, hown, hts⟩ (c_X2_together l D g n x_79054 n_nodes n_kind n_pay n_name n_ways n_held n_targets n_weights n_fkind n_fways n_fweights (tr_w h_79058 (by decide) (by decide)) (tr_w h_79059 (by decide) (by decide)) (tr_wa h_n_fkind (by decide) (by decide)) (tr_wa h_n_fways (by decide) (by decide))) (cwV 1 hts (tz_gV qw_527 qw_445 qw_446 qw_322 qw_447) rfl rfl rfl (by decide +kernel) ⟨Nat.le_of_ble_eq_true rfl, Nat.le_of_ble_eq_true rfl⟩) ⟨tz_blS, va_recv hK hPc (ci := 2) (q0 := 0) rfl rfl, tz_preS hPc hK⟩ rfl rfl hl.1 rfl (lv_room (Nat.le_of_ble_eq_true rfl)) dX0_lay_65 ⟨Nat.le_of_ble_eq_true rfl, Nat.le_of_ble_eq_true rfl⟩)) (fun r_79066 hw => ?_)
          refine lv_i2l hx hb dX0_lay_68 rfl ?_
          refine lv_topl (fun w_79067 _ => ?_)
          refine lv_lmul hx hb dX0_lay_69 ?_
          refine lv_topl (fun w_79068 _ => ?_)
          refine tq_ast (WS := (fun ct9 : Nat → Nat → Int64 => [(wI g n_pay 0 12 n_fpay), (wI g n_ways 0 12 n_fways), (wI g n_held 0 12 n_fheld), (wI g n_targets 0 36 n_ftargets), (wI g n_weights 0 36 n_fweights), (wI g pl 0 12 plf), (wO1 eq eq_rows eq_right ew), (wJ g eq_right 1 8 ofr_78088), (wR g eq_rows 5 8 (fun i => if i < 8 then some (rr i) else none)), (wJ g (rr 0) 1 8 (ct9 0)), (wJ g (rr 1) 1 8 (ct9 1)), (wJ g (rr 2) 1 8 (ct9 2)), (wJ g (rr 3) 1 8 (ct9 3)), (wJ g (rr 4) 1 8 (ct9 4)), (wJ g (rr 5) 1 8 (ct9 5)), (wJ g (rr 6) 1 8 (ct9 6)), (wJ g (rr 7) 1 8 (ct9 7)), (wO0 co n eq co_place), (wO2 n n_nodes n_kind n_pay n_name n_ways n_held n_targets n_weights), (wI g n_kind 0 12 n_fkind), (wI g co_place 0 12 opc_78091)])) (ct := ct_79055) hx hb hK hP hD hS 9 (fun ct i hi => by rcases nr_8 hi with rfl | rfl | rfl | rfl | rfl | rfl | rfl | rfl <;> rfl) (fun ct i f9 hi => by rcases nr_8 hi with rfl | rfl | rfl | rfl | rfl | rfl | rfl | rfl <;> rfl) (tr_in h_79063 (by decide) (by decide)) (tr_in h_79063 (by decide) (by decide)) dX0_lay_70 (fun ct_79069 H locs hP hD hS => ?_)
          have hP : va_P D vwCl [(wI g n_pay 0 12 n_fpay), (wI g n_ways 0 12 n_fways), (wI g n_held 0 12 n_fheld), (wI g n_targets 0 36 n_ftargets), (wI g n_weights 0 36 n_fweights), (wI g pl 0 12 plf), (wO1 eq eq_rows eq_right ew), (wJ g eq_right 1 8 ofr_78088), (wR g eq_rows 5 8 (fun i => if i < 8 then some (rr i) else none)), (wJ g (rr 0) 1 8 (ct_79069 0)), (wJ g (rr 1) 1 8 (ct_79069 1)), (wJ g (rr 2) 1 8 (ct_79069 2)), (wJ g (rr 3) 1 8 (ct_79069 3)), (wJ g (rr 4) 1 8 (ct_79069 4)), (wJ g (rr 5) 1 8 (ct_79069 5)), (wJ g (rr 6) 1 8 (ct_79069 6)), (wJ g (rr 7) 1 8 (ct_79069 7)), (wO0 co n eq co_place), (wO2 n n_nodes n_kind n_pay n_name n_ways n_held n_targets n_weights), (wI g n_kind 0 12 n_fkind), (wI g co_place 0 12 opc_78091)] H := hP
          have hD : va_D A [(wI g n_pay 0 12 n_fpay), (wI g n_ways 0 12 n_fways), (wI g n_held 0 12 n_fheld), (wI g n_targets 0 36 n_ftargets), (wI g n_weights 0 36 n_fweights), (wI g pl 0 12 plf), (wO1 eq eq_rows eq_right ew), (wJ g eq_right 1 8 ofr_78088), (wR g eq_rows 5 8 (fun i => if i < 8 then some (rr i) else none)), (wJ g (rr 0) 1 8 (ct_79069 0)), (wJ g (rr 1) 1 8 (ct_79069 1)), (wJ g (rr 2) 1 8 (ct_79069 2)), (wJ g (rr 3) 1 8 (ct_79069 3)), (wJ g (rr 4) 1 8 (ct_79069 4)), (wJ g (rr 5) 1 8 (ct_79069 5)), (wJ g (rr 6) 1 8 (ct_79069 6)), (wJ g (rr 7) 1 8 (ct_79069 7)), (wO0 co n eq co_place), (wO2 n n_nodes n_kind n_pay n_name n_ways n_held n_targets n_weights), (wI g n_kind 0 12 n_fkind), (wI g co_place 0 12 opc_78091)] := hD
          refine lv_iconst (v := 0) hx hb dX0_lay_71 (by decide) ?_
          refine lv_istore (lv' := [(8, .int 0), (7, .int v_79060), (6, .int x_79054), (5, .int r_78090), (0, .ref co), (1, .ref pl), (2, .int p0), (3, .int p1), (4, .int p2)]) hx hb dX0_lay_72 hl (by decide) rfl (fun ls hl => ?_)
          have lp_79156 : ∀ (n_79156 : Nat) (x_79154 : Int32) (ct_79155 : Nat → Nat → Int64) (H : Heap) (locs : List Loc) (ls : Array Slot), (0 ≤ (x_79154 : Int32).toInt ∧ (x_79154 : Int32).toInt ≤ 3) → (3 - x_79154.toInt < (n_79156 : Int)) → va_P D vwCl [(wI g n_pay 0 12 n_fpay), (wI g n_ways 0 12 n_fways), (wI g n_held 0 12 n_fheld), (wI g n_targets 0 36 n_ftargets), (wI g n_weights 0 36 n_fweights), (wI g pl 0 12 plf), (wO1 eq eq_rows eq_right ew), (wJ g eq_right 1 8 ofr_78088), (wR g eq_rows 5 8 (fun i => if i < 8 then some (rr i) else none)), (wJ g (rr 0) 1 8 (ct_79155 0)), (wJ g (rr 1) 1 8 (ct_79155 1)), (wJ g (rr 2) 1 8 (ct_79155 2)), (wJ g (rr 3) 1 8 (ct_79155 3)), (wJ g (rr 4) 1 8 (ct_79155 4)), (wJ g (rr 5) 1 8 (ct_79155 5)), (wJ g (rr 6) 1 8 (ct_79155 6)), (wJ g (rr 7) 1 8 (ct_79155 7)), (wO0 co n eq co_place), (wO2 n n_nodes n_kind n_pay n_name n_ways n_held n_targets n_weights), (wI g n_kind 0 12 n_fkind), (wI g co_place 0 12 opc_78091)] H → va_D A [(wI g n_pay 0 12 n_fpay), (wI g n_ways 0 12 n_fways), (wI g n_held 0 12 n_fheld), (wI g n_targets 0 36 n_ftargets), (wI g n_weights 0 36 n_fweights), (wI g pl 0 12 plf), (wO1 eq eq_rows eq_right ew), (wJ g eq_right 1 8 ofr_78088), (wR g eq_rows 5 8 (fun i => if i < 8 then some (rr i) else none)), (wJ g (rr 0) 1 8 (ct_79155 0)), (wJ g (rr 1) 1 8 (ct_79155 1)), (wJ g (rr 2) 1 8 (ct_79155 2)), (wJ g (rr 3) 1 8 (ct_79155 3)), (wJ g (rr 4) 1 8 (ct_79155 4)), (wJ g (rr 5) 1 8 (ct_79155 5)), (wJ g (rr 6) 1 8 (ct_79155 6)), (wJ g (rr 7) 1 8 (ct_79155 7)), (wO0 co n eq co_place), (wO2 n n_nodes n_kind n_pay n_name n_ways n_held n_targets n_weights), (wI g n_kind 0 12 n_fkind), (wI g co_place 0 12 opc_78091)] → va_S A s.heap H locs → lv_has ls 10 [(8, .int x_79154), (7, .int v_79060), (6, .int x_79054), (5, .int r_78090), (0, .ref co), (1, .ref pl), (2, .int p0), (3, .int p1), (4, .int p2)] → W p l e (headSpec (.code yX0_lay cX0_lay 10 (some .int) :: wsL_law) ({ frames := 1, cells := 0, slots := 0, locals := 23 })).room s m args below meth c H locs 0 0 (MQ below (va_Qi (fun r (_ : Unit) => 0 ≤ (r : Int32).toInt ∧ (r : Int32).toInt ≤ 8) (fun _ t => ∃ opc : Nat → Int32, ∃ ofr : Nat → Int64, ∃ oct : Nat → Nat → Int64, (∀ j : Nat, (-1) ≤ (opc j).toInt ∧ (opc j).toInt ≤ 7) ∧ va_P D vwCl [(wO0 co n eq co_place), (wO2 n n_nodes n_kind n_pay n_name n_ways n_held n_targets n_weights), (wI g n_kind 0 12 n_fkind), (wI g n_pay 0 12 n_fpay), (wI g n_ways 0 12 n_fways), (wI g n_held 0 12 n_fheld), (wI g n_targets 0 36 n_ftargets), (wI g n_weights 0 36 n_fweights), (wI g co_place 0 12 opc), (wO1 eq eq_rows eq_right ew), (wJ g eq_right 1 8 ofr), (wR g eq_rows 5 8 (fun i => if i < 8 then some (rr i) else none)), (wJ g (rr 0) 1 8 (oct 0)), (wJ g (rr 1) 1 8 (oct 1)), (wJ g (rr 2) 1 8 (oct 2)), (wJ g (rr 3) 1 8 (oct 3)), (wJ g (rr 4) 1 8 (oct 4)), (wJ g (rr 5) 1 8 (oct 5)), (wJ g (rr 6) 1 8 (oct 6)), (wJ g (rr 7) 1 8 (oct 7)), (wI g pl 0 12 plf)] t.heap ∧ va_D A [(wO0 co n eq co_place), (wO2 n n_nodes n_kind n_pay n_name n_ways n_held n_targets n_weights), (wI g n_kind 0 12 n_fkind), (wI g n_pay 0 12 n_fpay), (wI g n_ways 0 12 n_fways), (wI g n_held 0 12 n_fheld), (wI g n_targets 0 36 n_ftargets), (wI g n_weights 0 36 n_fweights), (wI g co_place 0 12 opc), (wO1 eq eq_rows eq_right ew), (wJ g eq_right 1 8 ofr), (wR g eq_rows 5 8 (fun i => if i < 8 then some (rr i) else none)), (wJ g (rr 0) 1 8 (oct 0)), (wJ g (rr 1) 1 8 (oct 1)), (wJ g (rr 2) 1 8 (oct 2)), (wJ g (rr 3) 1 8 (oct 3)), (wJ g (rr 4) 1 8 (oct 4)), (wJ g (rr 5) 1 8 (oct 5)), (wJ g (rr 6) 1 8 (oct 6)), (wJ g (rr 7) 1 8 (oct 7)), (wI g pl 0 12 plf)]) A) args s 0 0 A) (F0 m 74 ls []) := by
            intro n_79156
            induction n_79156 with
            | zero =>
              intro x_79154 ct_79155 H locs ls h_x_79154 hm_79156 hP hD hS hl
              exfalso; omega
            | succ n_79156 ih_79156 =>
              intro x_79154 ct_79155 H locs ls h_x_79154 hm_79156 hP hD hS hl
              refine lv_iload hx hb dX0_lay_74 (lv_at hl 0 rfl) ?_
              refine lv_aload_n hx hb dX0_lay_76 rfl (lv_at hl 4 rfl) ?_
              refine va_get (D := D) (ci := 0) (v := .ref n) (C := RX0) (T := TX0) (N := 3) hx hb hts inlX0 hown hK hP 17 rfl rfl 0 (by decide) (hts (Cond.fieldLink RX0 22 "ChanceRings$Course" "net" "LChanceRings$Net;") qw_483) (fun _ h9 => h9) rfl dX0_lay_77 ?_
              refine va_get (D := D) (ci := 2) (v := .ref n_ways) (C := RX2) (T := TX2) (N := 8) hx hb hts inlX2 hown hK hP 18 rfl rfl 4 (by decide) (hts (Cond.fieldLink RX0 34 "ChanceRings$Net" "ways" "[I") qw_486) (fun _ h9 => h9) rfl dX0_lay_80 ?_
              refine lv_iload hx hb dX0_lay_83 (lv_at hl 2 rfl) ?_
              refine va_iald hx hb hK hP 1 0 rfl rfl (tr_in h_79058 (by decide) (by decide)) dX0_lay_85 ?_
              refine lv_topi (fun v_79157 v_79157_e => ?_)
              have h_v_79157 : 0 ≤ (v_79157 : Int32).toInt ∧ (v_79157 : Int32).toInt ≤ 3 := by rw [v_79157_e]; exact h_n_fways _
              refine lv_icmp_ge (tgt := 148) hx hb dX0_lay_86 (by decide) (fun c_79158 => ?_) (fun c_79158 => ?_)
              · skip
                obtain ⟨v_79161, v_79161_e⟩ : ∃ y : Int32, y = x_79054 + Int32.ofInt 1 := ⟨_, rfl⟩
                have h_v_79161 : 1 ≤ (v_79161 : Int32).toInt ∧ (v_79161 : Int32).toInt ≤ 12 := by rw [v_79161_e]; exact tr_add h_79058 (⟨by decide, by decide⟩ : 1 ≤ (Int32.ofInt 1 : Int32).toInt ∧ (Int32.ofInt 1 : Int32).toInt ≤ 1) (by decide) (by decide) (by decide) (by decide)
                have q_v_79161 : v_79161.toInt = x_79054.toInt + 1 := by rw [v_79161_e]; exact tr_addE h_79058 (⟨by decide, by decide⟩ : 1 ≤ (Int32.ofInt 1 : Int32).toInt ∧ (Int32.ofInt 1 : Int32).toInt ≤ 1) (by decide) (by decide)
                refine lv_iinc (v := v_79161) (lv' := [(6, .int v_79161), (8, .int x_79154), (7, .int v_79060), (5, .int r_78090), (0, .ref co), (1, .ref pl), (2, .int p0), (3, .int p1), (4, .int p2)]) hx hb dX0_lay_148 hl (k := 2) rfl v_79161_e.symm (by decide) rfl (fun ls hl => ?_)
                refine lv_goto (tgt := 17) hx hb dX0_lay_151 (by decide) ?_
                exact ih_79056 v_79161 ct_79155 H _ ls (tr_w h_v_79161 (by decide) (by decide)) (by (first | (clear hw_78093 h_v_79060 c_79061_i h_79063 h_x_79154 h_v_79157; omega) | omega)) (hP.sub [0, 1, 2, 3, 4, 5, 6, 7, 8, 9, 10, 11, 12, 13, 14, 15, 16, 17, 18, 19, 20] rfl) (hD.sub [0, 1, 2, 3, 4, 5, 6, 7, 8, 9, 10, 11, 12, 13, 14, 15, 16, 17, 18, 19, 20] (by decide) rfl) hS (lv_sub hl [0, 3, 4, 5, 6, 7, 8] rfl)
              · skip
                have c_79158_i := Int32.lt_iff_toInt_lt.mp (Int32.not_le.mp c_79158)
                have h_79159 : 0 ≤ (x_79154 : Int32).toInt ∧ (x_79154 : Int32).toInt ≤ 2 := nr_lt_l h_x_79154 h_v_79157 c_79158_i (by decide) (by decide)
                have h_79160 : 1 ≤ (v_79157 : Int32).toInt ∧ (v_79157 : Int32).toInt ≤ 3 := nr_lt_r h_x_79154 h_v_79157 c_79158_i (by decide) (by decide)
                refine lv_aload_n hx hb dX0_lay_89 rfl (lv_at hl 4 rfl) ?_
                refine va_get (D := D) (ci := 0) (v := .ref co_place) (C := RX0) (T := TX0) (N := 3) hx hb hts inlX0 hown hK hP 17 rfl rfl 2 (by decide) (hts (Cond.fieldLink RX0 18 "ChanceRings$Course" "place" "[I") qw_494) (fun _ h9 => h9) rfl dX0_lay_90 ?_
                refine lv_aload_n hx hb dX0_lay_93 rfl (lv_at hl 4 rfl) ?_
                refine va_get (D := D) (ci := 0) (v := .ref n) (C := RX0) (T := TX0) (N := 3) hx hb hts inlX0 hown hK hP 17 rfl rfl 0 (by decide) (hts (Cond.fieldLink RX0 22 "ChanceRings$Course" "net" "LChanceRings$Net;") qw_483) (fun _ h9 => h9) rfl dX0_lay_94 ?_
                refine lv_iload hx hb dX0_lay_97 (lv_at hl 2 rfl) ?_
                refine lv_iload hx hb dX0_lay_99 (lv_at hl 0 rfl) ?_
                have hPc := hP.sub (ws' := [(wO2 n n_nodes n_kind n_pay n_name n_ways n_held n_targets n_weights), (wI g n_targets 0 36 n_ftargets)]) [18, 3] rfl
                refine vp_callSi (va_Run.run (va_runV (As := [.int x_79054, .int x_79154]) (rest := [.ref co_place]) ⟨hx, hb, hml, hown, hts⟩ (c_X2_target l D g n x_79054 x_79154 n_nodes n_kind n_pay n_name n_ways n_held n_targets n_weights n_ftargets (tr_w h_79058 (by decide) (by decide)) (tr_w h_79159 (by decide) (by decide)) (tr_w h_79059 (by decide) (by decide)) (tr_wa h_n_ftargets (by decide) (by decide))) (cwV 2 hts (tz_gV qw_492 qw_325 qw_326 qw_322 qw_327) rfl rfl rfl (by decide +kernel) ⟨Nat.le_of_ble_eq_true rfl, Nat.le_of_ble_eq_true rfl⟩) ⟨tz_blS, va_recv hK hPc (ci := 2) (q0 := 0) rfl rfl, tz_preS hPc hK⟩ rfl rfl hl.1 rfl (lv_room (Nat.le_of_ble_eq_true rfl)) dX0_lay_101 ⟨Nat.le_of_ble_eq_true rfl, Nat.le_of_ble_eq_true rfl⟩)) (fun r_79162 hw => ?_)
                have hw_79163 : 0 ≤ (r_79162 : Int32).toInt ∧ (r_79162 : Int32).toInt ≤ 11 := hw
                refine va_iald hx hb hK hP 20 0 rfl rfl (tr_in hw_79163 (by decide) (by decide)) dX0_lay_104 ?_
                refine lv_topi (fun v_79164 v_79164_e => ?_)
                have h_v_79164 : (-1) ≤ (v_79164 : Int32).toInt ∧ (v_79164 : Int32).toInt ≤ 7 := by rw [v_79164_e]; exact hf_78092 _
                refine lv_istore (lv' := [(9, .int v_79164), (8, .int x_79154), (7, .int v_79060), (6, .int x_79054), (5, .int r_78090), (0, .ref co), (1, .ref pl), (2, .int p0), (3, .int p1), (4, .int p2)]) hx hb dX0_lay_105 hl (by decide) rfl (fun ls hl => ?_)
                refine lv_iload hx hb dX0_lay_107 (lv_at hl 0 rfl) ?_
                refine lv_iconst (v := (-1)) hx hb dX0_lay_109 (by decide) ?_
                refine lv_icmp_eq (tgt := 142) hx hb dX0_lay_110 (by decide) (fun c_79165 => ?_) (fun c_79165 => ?_)
                · skip
                  have c_79165_i : (v_79164 : Int32).toInt = ((-1) : Int32).toInt := congrArg Int32.toInt c_79165
                  have h_79166 : (-1) ≤ (v_79164 : Int32).toInt ∧ (v_79164 : Int32).toInt ≤ (-1) := nr_eq_l h_v_79164 (⟨by decide, by decide⟩ : (-1) ≤ ((-1) : Int32).toInt ∧ ((-1) : Int32).toInt ≤ (-1)) c_79165_i (by decide) (by decide)
                  obtain ⟨v_79168, v_79168_e⟩ : ∃ y : Int32, y = x_79154 + Int32.ofInt 1 := ⟨_, rfl⟩
                  have h_v_79168 : 1 ≤ (v_79168 : Int32).toInt ∧ (v_79168 : Int32).toInt ≤ 3 := by rw [v_79168_e]; exact tr_add h_79159 (⟨by decide, by decide⟩ : 1 ≤ (Int32.ofInt 1 : Int32).toInt ∧ (Int32.ofInt 1 : Int32).toInt ≤ 1) (by decide) (by decide) (by decide) (by decide)
                  have q_v_79168 : v_79168.toInt = x_79154.toInt + 1 := by rw [v_79168_e]; exact tr_addE h_79159 (⟨by decide, by decide⟩ : 1 ≤ (Int32.ofInt 1 : Int32).toInt ∧ (Int32.ofInt 1 : Int32).toInt ≤ 1) (by decide) (by decide)
                  refine lv_iinc (v := v_79168) (lv' := [(8, .int v_79168), (9, .int v_79164), (7, .int v_79060), (6, .int x_79054), (5, .int r_78090), (0, .ref co), (1, .ref pl), (2, .int p0), (3, .int p1), (4, .int p2)]) hx hb dX0_lay_142 hl (k := 1) rfl v_79168_e.symm (by decide) rfl (fun ls hl => ?_)
                  refine lv_goto (tgt := 74) hx hb dX0_lay_145 (by decide) ?_
                  exact ih_79156 v_79168 ct_79155 H _ ls (tr_w h_v_79168 (by decide) (by decide)) (by (first | (clear hw_78093 h_v_79060 c_79061_i h_79063 hw_79163 h_v_79164 c_79165_i h_79166; omega) | omega)) (hP.sub [0, 1, 2, 3, 4, 5, 6, 7, 8, 9, 10, 11, 12, 13, 14, 15, 16, 17, 18, 19, 20] rfl) (hD.sub [0, 1, 2, 3, 4, 5, 6, 7, 8, 9, 10, 11, 12, 13, 14, 15, 16, 17, 18, 19, 20] (by decide) rfl) hS (lv_sub hl [0, 2, 3, 4, 5, 6, 7, 8, 9] rfl)
                · skip
                  have c_79165_i : ¬ (v_79164 : Int32).toInt = ((-1) : Int32).toInt := (fun q => c_79165 (Int32.toInt_inj.mp q))
                  have h_79167 : 0 ≤ (v_79164 : Int32).toInt ∧ (v_79164 : Int32).toInt ≤ 7 := nr_ne_l h_v_79164 (⟨by decide, by decide⟩ : (-1) ≤ ((-1) : Int32).toInt ∧ ((-1) : Int32).toInt ≤ (-1)) c_79165_i (by decide) (by decide)
                  refine lv_aload_n hx hb dX0_lay_113 rfl (lv_at hl 5 rfl) ?_
                  refine va_get (D := D) (ci := 0) (v := .ref eq) (C := RX0) (T := TX0) (N := 3) hx hb hts inlX0 hown hK hP 17 rfl rfl 1 (by decide) (hts (Cond.fieldLink RX0 12 "ChanceRings$Course" "equations" "LChanceRings$Equations;") qw_517) (fun _ h9 => h9) rfl dX0_lay_114 ?_
                  refine va_get (D := D) (ci := 1) (v := .ref eq_rows) (C := RX1) (T := TX1) (N := 3) hx hb hts inlX1 hown hK hP 6 rfl rfl 0 (by decide) (hts (Cond.fieldLink RX0 87 "ChanceRings$Equations" "rows" "[[J") qw_526) (fun _ h9 => h9) rfl dX0_lay_117 ?_
                  refine lv_iload hx hb dX0_lay_120 (lv_at hl 2 rfl) ?_
                  refine va_ald2 hx hb hK hP 8 5 rfl rfl (tr_in h_79063 (by decide) (by decide)) dX0_lay_122 ?_
                  refine tz_v (y := .ref (rr (v_79060 : Int32).toNatClampNeg)) (tz_row rfl (tr_cl (tr_in h_79063 (by decide) (by decide)))) ?_
                  refine lv_iload hx hb dX0_lay_123 (lv_at hl 0 rfl) ?_
                  refine lv_dup2_11 hx hb dX0_lay_125 rfl rfl ?_
                  refine tq_ald (WS := (fun ct9 : Nat → Nat → Int64 => [(wI g n_pay 0 12 n_fpay), (wI g n_ways 0 12 n_fways), (wI g n_held 0 12 n_fheld), (wI g n_targets 0 36 n_ftargets), (wI g n_weights 0 36 n_fweights), (wI g pl 0 12 plf), (wO1 eq eq_rows eq_right ew), (wJ g eq_right 1 8 ofr_78088), (wR g eq_rows 5 8 (fun i => if i < 8 then some (rr i) else none)), (wJ g (rr 0) 1 8 (ct9 0)), (wJ g (rr 1) 1 8 (ct9 1)), (wJ g (rr 2) 1 8 (ct9 2)), (wJ g (rr 3) 1 8 (ct9 3)), (wJ g (rr 4) 1 8 (ct9 4)), (wJ g (rr 5) 1 8 (ct9 5)), (wJ g (rr 6) 1 8 (ct9 6)), (wJ g (rr 7) 1 8 (ct9 7)), (wO0 co n eq co_place), (wO2 n n_nodes n_kind n_pay n_name n_ways n_held n_targets n_weights), (wI g n_kind 0 12 n_fkind), (wI g co_place 0 12 opc_78091)])) (ct := ct_79155) hx hb hK hP 9 (fun ct i hi => by rcases nr_8 hi with rfl | rfl | rfl | rfl | rfl | rfl | rfl | rfl <;> rfl) (tr_in h_79063 (by decide) (by decide)) (tr_in h_79167 (by decide) (by decide)) dX0_lay_126 (fun w_79169 => ?_)
                  refine lv_iload_n hx hb dX0_lay_127 rfl (lv_at hl 8 rfl) ?_
                  refine lv_i2l hx hb dX0_lay_128 rfl ?_
                  refine lv_topl (fun w_79170 _ => ?_)
                  refine lv_aload_n hx hb dX0_lay_129 rfl (lv_at hl 5 rfl) ?_
                  refine lv_aload_n hx hb dX0_lay_130 rfl (lv_at hl 6 rfl) ?_
                  refine lv_iload hx hb dX0_lay_131 (lv_at hl 3 rfl) ?_
                  refine lv_iload hx hb dX0_lay_133 (lv_at hl 1 rfl) ?_
                  have hPc := hP.sub (ws' := [(wO0 co n eq co_place), (wO2 n n_nodes n_kind n_pay n_name n_ways n_held n_targets n_weights), (wI g n_kind 0 12 n_fkind), (wI g n_weights 0 36 n_fweights), (wI g pl 0 12 plf)]) [17, 18, 19, 4, 5] rfl
                  refine vp_callSi (va_Run.run (va_runV (As := [.ref pl, .int x_79054, .int x_79154]) (rest := [.long w_79170, .long w_79169, .int v_79164, .ref (rr (v_79060 : Int32).toNatClampNeg)]) ⟨hx, hb, hml, hown, hts⟩ (c_X0_share l D g co pl x_79054 x_79154 n eq co_place n_nodes n_kind n_pay n_name n_ways n_held n_targets n_weights n_fkind n_fweights plf (tr_w h_79058 (by decide) (by decide)) (tr_w h_79159 (by decide) (by decide)) (tr_w h_79059 (by decide) (by decide)) (tr_wa h_n_fkind (by decide) (by decide)) (tr_wa h_plf (by decide) (by decide))) (cwV 3 hts (tz_gV qw_487 qw_488 qw_489 qw_490 qw_491) rfl rfl rfl (by decide +kernel) ⟨Nat.le_of_ble_eq_true rfl, Nat.le_of_ble_eq_true rfl⟩) ⟨tz_blS, va_recv hK hPc (ci := 0) (q0 := 0) rfl rfl, tz_preS hPc hK⟩ rfl rfl hl.1 rfl (lv_room (Nat.le_of_ble_eq_true rfl)) dX0_lay_135 ⟨Nat.le_of_ble_eq_true rfl, Nat.le_of_ble_eq_true rfl⟩)) (fun r_79171 hw => ?_)
                  refine lv_i2l hx hb dX0_lay_138 rfl ?_
                  refine lv_topl (fun w_79172 _ => ?_)
                  refine lv_lmul hx hb dX0_lay_139 ?_
                  refine lv_topl (fun w_79173 _ => ?_)
                  refine lv_lsub hx hb dX0_lay_140 ?_
                  refine lv_topl (fun w_79174 _ => ?_)
                  refine tq_ast (WS := (fun ct9 : Nat → Nat → Int64 => [(wI g n_pay 0 12 n_fpay), (wI g n_ways 0 12 n_fways), (wI g n_held 0 12 n_fheld), (wI g n_targets 0 36 n_ftargets), (wI g n_weights 0 36 n_fweights), (wI g pl 0 12 plf), (wO1 eq eq_rows eq_right ew), (wJ g eq_right 1 8 ofr_78088), (wR g eq_rows 5 8 (fun i => if i < 8 then some (rr i) else none)), (wJ g (rr 0) 1 8 (ct9 0)), (wJ g (rr 1) 1 8 (ct9 1)), (wJ g (rr 2) 1 8 (ct9 2)), (wJ g (rr 3) 1 8 (ct9 3)), (wJ g (rr 4) 1 8 (ct9 4)), (wJ g (rr 5) 1 8 (ct9 5)), (wJ g (rr 6) 1 8 (ct9 6)), (wJ g (rr 7) 1 8 (ct9 7)), (wO0 co n eq co_place), (wO2 n n_nodes n_kind n_pay n_name n_ways n_held n_targets n_weights), (wI g n_kind 0 12 n_fkind), (wI g co_place 0 12 opc_78091)])) (ct := ct_79155) hx hb hK hP hD hS 9 (fun ct i hi => by rcases nr_8 hi with rfl | rfl | rfl | rfl | rfl | rfl | rfl | rfl <;> rfl) (fun ct i f9 hi => by rcases nr_8 hi with rfl | rfl | rfl | rfl | rfl | rfl | rfl | rfl <;> rfl) (tr_in h_79063 (by decide) (by decide)) (tr_in h_79167 (by decide) (by decide)) dX0_lay_141 (fun ct_79175 H locs hP hD hS => ?_)
                  have hP : va_P D vwCl [(wI g n_pay 0 12 n_fpay), (wI g n_ways 0 12 n_fways), (wI g n_held 0 12 n_fheld), (wI g n_targets 0 36 n_ftargets), (wI g n_weights 0 36 n_fweights), (wI g pl 0 12 plf), (wO1 eq eq_rows eq_right ew), (wJ g eq_right 1 8 ofr_78088), (wR g eq_rows 5 8 (fun i => if i < 8 then some (rr i) else none)), (wJ g (rr 0) 1 8 (ct_79175 0)), (wJ g (rr 1) 1 8 (ct_79175 1)), (wJ g (rr 2) 1 8 (ct_79175 2)), (wJ g (rr 3) 1 8 (ct_79175 3)), (wJ g (rr 4) 1 8 (ct_79175 4)), (wJ g (rr 5) 1 8 (ct_79175 5)), (wJ g (rr 6) 1 8 (ct_79175 6)), (wJ g (rr 7) 1 8 (ct_79175 7)), (wO0 co n eq co_place), (wO2 n n_nodes n_kind n_pay n_name n_ways n_held n_targets n_weights), (wI g n_kind 0 12 n_fkind), (wI g co_place 0 12 opc_78091)] H := hP
                  have hD : va_D A [(wI g n_pay 0 12 n_fpay), (wI g n_ways 0 12 n_fways), (wI g n_held 0 12 n_fheld), (wI g n_targets 0 36 n_ftargets), (wI g n_weights 0 36 n_fweights), (wI g pl 0 12 plf), (wO1 eq eq_rows eq_right ew), (wJ g eq_right 1 8 ofr_78088), (wR g eq_rows 5 8 (fun i => if i < 8 then some (rr i) else none)), (wJ g (rr 0) 1 8 (ct_79175 0)), (wJ g (rr 1) 1 8 (ct_79175 1)), (wJ g (rr 2) 1 8 (ct_79175 2)), (wJ g (rr 3) 1 8 (ct_79175 3)), (wJ g (rr 4) 1 8 (ct_79175 4)), (wJ g (rr 5) 1 8 (ct_79175 5)), (wJ g (rr 6) 1 8 (ct_79175 6)), (wJ g (rr 7) 1 8 (ct_79175 7)), (wO0 co n eq co_place), (wO2 n n_nodes n_kind n_pay n_name n_ways n_held n_targets n_weights), (wI g n_kind 0 12 n_fkind), (wI g co_place 0 12 opc_78091)] := hD
                  obtain ⟨v_79176, v_79176_e⟩ : ∃ y : Int32, y = x_79154 + Int32.ofInt 1 := ⟨_, rfl⟩
                  have h_v_79176 : 1 ≤ (v_79176 : Int32).toInt ∧ (v_79176 : Int32).toInt ≤ 3 := by rw [v_79176_e]; exact tr_add h_79159 (⟨by decide, by decide⟩ : 1 ≤ (Int32.ofInt 1 : Int32).toInt ∧ (Int32.ofInt 1 : Int32).toInt ≤ 1) (by decide) (by decide) (by decide) (by decide)
                  have q_v_79176 : v_79176.toInt = x_79154.toInt + 1 := by rw [v_79176_e]; exact tr_addE h_79159 (⟨by decide, by decide⟩ : 1 ≤ (Int32.ofInt 1 : Int32).toInt ∧ (Int32.ofInt 1 : Int32).toInt ≤ 1) (by decide) (by decide)
                  refine lv_iinc (v := v_79176) (lv' := [(8, .int v_79176), (9, .int v_79164), (7, .int v_79060), (6, .int x_79054), (5, .int r_78090), (0, .ref co), (1, .ref pl), (2, .int p0), (3, .int p1), (4, .int p2)]) hx hb dX0_lay_142 hl (k := 1) rfl v_79176_e.symm (by decide) rfl (fun ls hl => ?_)
                  refine lv_goto (tgt := 74) hx hb dX0_lay_145 (by decide) ?_
                  exact ih_79156 v_79176 ct_79175 H _ ls (tr_w h_v_79176 (by decide) (by decide)) (by (first | (clear hw_78093 h_v_79060 c_79061_i h_79063 hw_79163 h_v_79164 c_79165_i h_79167; omega) | omega)) (hP.sub [0, 1, 2, 3, 4, 5, 6, 7, 8, 9, 10, 11, 12, 13, 14, 15, 16, 17, 18, 19, 20] rfl) (hD.sub [0, 1, 2, 3, 4, 5, 6, 7, 8, 9, 10, 11, 12, 13, 14, 15, 16, 17, 18, 19, 20] (by decide) rfl) hS (lv_sub hl [0, 2, 3, 4, 5, 6, 7, 8, 9] rfl)
          exact lp_79156 4 0 ct_79069 H _ ls (⟨by decide, by decide⟩ : 0 ≤ (0 : Int32).toInt ∧ (0 : Int32).toInt ≤ 3) (by decide) (hP.sub [0, 1, 2, 3, 4, 5, 6, 7, 8, 9, 10, 11, 12, 13, 14, 15, 16, 17, 18, 19, 20] rfl) (hD.sub [0, 1, 2, 3, 4, 5, 6, 7, 8, 9, 10, 11, 12, 13, 14, 15, 16, 17, 18, 19, 20] (by decide) rfl) hS (lv_sub hl [0, 1, 2, 3, 4, 5, 6, 7, 8] rfl)
  exact lp_79056 13 0 oct_78089 H _ ls (⟨by decide, by decide⟩ : 0 ≤ (0 : Int32).toInt ∧ (0 : Int32).toInt ≤ 12) (by decide) (hP.sub [0, 1, 2, 3, 4, 5, 6, 7, 8, 9, 10, 11, 12, 13, 14, 15, 16, 17, 18, 19, 20] rfl) (hD.sub [0, 1, 2, 3, 4, 5, 6, 7, 8, 9, 10, 11, 12, 13, 14, 15, 16, 17, 18, 19, 20] (by decide) rfl) hS (lv_sub hl [0, 1, 2, 3, 4, 5, 6] rfl)
set_option maxHeartbeats 4000000 in
set_option maxRecDepth 100000 in
theorem c_X0_finish (l : Launch) (D : va_G) (g : Nat → ClassId) (sz : Nat) (co : Nat) (p0 : Int32) (vs : Nat) (n : Nat) (eq : Nat) (co_place : Nat) (n_nodes : Int32) (n_kind : Nat) (n_pay : Nat) (n_name : Nat) (n_ways : Nat) (n_held : Nat) (n_targets : Nat) (n_weights : Nat) (n_fkind : Nat → Int32) (n_fpay : Nat → Int32) (n_fways : Nat → Int32) (n_fheld : Nat → Int32) (n_ftargets : Nat → Int32) (n_fweights : Nat → Int32) (pcf : Nat → Int32) (eq_rows : Nat) (eq_right : Nat) (ew : Int64) (fr : Nat → Int64) (rr : Nat → Nat) (ct : Nat → Nat → Int64) (vs_part : Nat) (vsw : Int64) (vsp : Nat → Int64) (h_p0 : 0 ≤ (p0 : Int32).toInt ∧ (p0 : Int32).toInt ≤ 8) (h_n_nodes : 0 ≤ (n_nodes : Int32).toInt ∧ (n_nodes : Int32).toInt ≤ 12) (h_n_fkind : ∀ j : Nat, 0 ≤ (n_fkind j).toInt ∧ (n_fkind j).toInt ≤ 3) (h_n_fways : ∀ j : Nat, 0 ≤ (n_fways j).toInt ∧ (n_fways j).toInt ≤ 3) (h_n_fheld : ∀ j : Nat, (-1) ≤ (n_fheld j).toInt ∧ (n_fheld j).toInt ≤ 2) (h_n_ftargets : ∀ j : Nat, 0 ≤ (n_ftargets j).toInt ∧ (n_ftargets j).toInt ≤ 11) (h_pcf : ∀ j : Nat, (-1) ≤ (pcf j).toInt ∧ (pcf j).toInt ≤ 7) : Met l yX0_finish (.code yX0_finish cX0_finish 4 none :: wsL_law) ({ frames := 2, cells := 0, slots := 0, locals := 55 }) (va_Pc [.ref co, .int p0, .ref vs] (fun U => U.heap.size = sz ∧ va_P D vwCl [(wO0 co n eq co_place), (wO2 n n_nodes n_kind n_pay n_name n_ways n_held n_targets n_weights), (wI g n_kind 0 12 n_fkind), (wI g n_pay 0 12 n_fpay), (wI g n_ways 0 12 n_fways), (wI g n_held 0 12 n_fheld), (wI g n_targets 0 36 n_ftargets), (wI g n_weights 0 36 n_fweights), (wI g co_place 0 12 pcf), (wO1 eq eq_rows eq_right ew), (wJ g eq_right 1 8 fr), (wR g eq_rows 5 8 (fun i => if i < 8 then some (rr i) else none)), (wJ g (rr 0) 1 8 (ct 0)), (wJ g (rr 1) 1 8 (ct 1)), (wJ g (rr 2) 1 8 (ct 2)), (wJ g (rr 3) 1 8 (ct 3)), (wJ g (rr 4) 1 8 (ct 4)), (wJ g (rr 5) 1 8 (ct 5)), (wJ g (rr 6) 1 8 (ct 6)), (wJ g (rr 7) 1 8 (ct 7)), (wO10 vs vs_part vsw), (wJ g vs_part 1 12 vsp)] U.heap ∧ va_K D vwCl (TY g) U ∧ va_D (fun _ => True) [(wO0 co n eq co_place), (wO2 n n_nodes n_kind n_pay n_name n_ways n_held n_targets n_weights), (wI g n_kind 0 12 n_fkind), (wI g n_pay 0 12 n_fpay), (wI g n_ways 0 12 n_fways), (wI g n_held 0 12 n_fheld), (wI g n_targets 0 36 n_ftargets), (wI g n_weights 0 36 n_fweights), (wI g co_place 0 12 pcf), (wO1 eq eq_rows eq_right ew), (wJ g eq_right 1 8 fr), (wR g eq_rows 5 8 (fun i => if i < 8 then some (rr i) else none)), (wJ g (rr 0) 1 8 (ct 0)), (wJ g (rr 1) 1 8 (ct 1)), (wJ g (rr 2) 1 8 (ct 2)), (wJ g (rr 3) 1 8 (ct 3)), (wJ g (rr 4) 1 8 (ct 4)), (wJ g (rr 5) 1 8 (ct 5)), (wJ g (rr 6) 1 8 (ct 6)), (wJ g (rr 7) 1 8 (ct 7)), (wO10 vs vs_part vsw), (wJ g vs_part 1 12 vsp)])) (va_Qv (fun (_ : Unit) => True) (fun _ t => ∃ oew : Int64, ∃ ofr : Nat → Int64, ∃ ovw : Int64, ∃ ovp : Nat → Int64, ∃ oct : Nat → Nat → Int64, va_P D vwCl [(wO0 co n eq co_place), (wO2 n n_nodes n_kind n_pay n_name n_ways n_held n_targets n_weights), (wI g n_kind 0 12 n_fkind), (wI g n_pay 0 12 n_fpay), (wI g n_ways 0 12 n_fways), (wI g n_held 0 12 n_fheld), (wI g n_targets 0 36 n_ftargets), (wI g n_weights 0 36 n_fweights), (wI g co_place 0 12 pcf), (wO1 eq eq_rows eq_right oew), (wJ g eq_right 1 8 ofr), (wR g eq_rows 5 8 (fun i => if i < 8 then some (rr i) else none)), (wJ g (rr 0) 1 8 (oct 0)), (wJ g (rr 1) 1 8 (oct 1)), (wJ g (rr 2) 1 8 (oct 2)), (wJ g (rr 3) 1 8 (oct 3)), (wJ g (rr 4) 1 8 (oct 4)), (wJ g (rr 5) 1 8 (oct 5)), (wJ g (rr 6) 1 8 (oct 6)), (wJ g (rr 7) 1 8 (oct 7)), (wO10 vs vs_part ovw), (wJ g vs_part 1 12 ovp)] t.heap ∧ va_D (va_A [(wO0 co n eq co_place), (wO2 n n_nodes n_kind n_pay n_name n_ways n_held n_targets n_weights), (wI g n_kind 0 12 n_fkind), (wI g n_pay 0 12 n_fpay), (wI g n_ways 0 12 n_fways), (wI g n_held 0 12 n_fheld), (wI g n_targets 0 36 n_ftargets), (wI g n_weights 0 36 n_fweights), (wI g co_place 0 12 pcf), (wO1 eq eq_rows eq_right ew), (wJ g eq_right 1 8 fr), (wR g eq_rows 5 8 (fun i => if i < 8 then some (rr i) else none)), (wJ g (rr 0) 1 8 (ct 0)), (wJ g (rr 1) 1 8 (ct 1)), (wJ g (rr 2) 1 8 (ct 2)), (wJ g (rr 3) 1 8 (ct 3)), (wJ g (rr 4) 1 8 (ct 4)), (wJ g (rr 5) 1 8 (ct 5)), (wJ g (rr 6) 1 8 (ct 6)), (wJ g (rr 7) 1 8 (ct 7)), (wO10 vs vs_part vsw), (wJ g vs_part 1 12 vsp)] sz) [(wO0 co n eq co_place), (wO2 n n_nodes n_kind n_pay n_name n_ways n_held n_targets n_weights), (wI g n_kind 0 12 n_fkind), (wI g n_pay 0 12 n_fpay), (wI g n_ways 0 12 n_fways), (wI g n_held 0 12 n_fheld), (wI g n_targets 0 36 n_ftargets), (wI g n_weights 0 36 n_fweights), (wI g co_place 0 12 pcf), (wO1 eq eq_rows eq_right oew), (wJ g eq_right 1 8 ofr), (wR g eq_rows 5 8 (fun i => if i < 8 then some (rr i) else none)), (wJ g (rr 0) 1 8 (oct 0)), (wJ g (rr 1) 1 8 (oct 1)), (wJ g (rr 2) 1 8 (oct 2)), (wJ g (rr 3) 1 8 (oct 3)), (wJ g (rr 4) 1 8 (oct 4)), (wJ g (rr 5) 1 8 (oct 5)), (wJ g (rr 6) 1 8 (oct 6)), (wJ g (rr 7) 1 8 (oct 7)), (wO10 vs vs_part ovw), (wJ g vs_part 1 12 ovp)]) (va_A [(wO0 co n eq co_place), (wO2 n n_nodes n_kind n_pay n_name n_ways n_held n_targets n_weights), (wI g n_kind 0 12 n_fkind), (wI g n_pay 0 12 n_fpay), (wI g n_ways 0 12 n_fways), (wI g n_held 0 12 n_fheld), (wI g n_targets 0 36 n_ftargets), (wI g n_weights 0 36 n_fweights), (wI g co_place 0 12 pcf), (wO1 eq eq_rows eq_right ew), (wJ g eq_right 1 8 fr), (wR g eq_rows 5 8 (fun i => if i < 8 then some (rr i) else none)), (wJ g (rr 0) 1 8 (ct 0)), (wJ g (rr 1) 1 8 (ct 1)), (wJ g (rr 2) 1 8 (ct 2)), (wJ g (rr 3) 1 8 (ct 3)), (wJ g (rr 4) 1 8 (ct 4)), (wJ g (rr 5) 1 8 (ct 5)), (wJ g (rr 6) 1 8 (ct 6)), (wJ g (rr 7) 1 8 (ct 7)), (wO10 vs vs_part vsw), (wJ g vs_part 1 12 vsp)] sz)) 0 0 (va_A [(wO0 co n eq co_place), (wO2 n n_nodes n_kind n_pay n_name n_ways n_held n_targets n_weights), (wI g n_kind 0 12 n_fkind), (wI g n_pay 0 12 n_fpay), (wI g n_ways 0 12 n_fways), (wI g n_held 0 12 n_fheld), (wI g n_targets 0 36 n_ftargets), (wI g n_weights 0 36 n_fweights), (wI g co_place 0 12 pcf), (wO1 eq eq_rows eq_right ew), (wJ g eq_right 1 8 fr), (wR g eq_rows 5 8 (fun i => if i < 8 then some (rr i) else none)), (wJ g (rr 0) 1 8 (ct 0)), (wJ g (rr 1) 1 8 (ct 1)), (wJ g (rr 2) 1 8 (ct 2)), (wJ g (rr 3) 1 8 (ct 3)), (wJ g (rr 4) 1 8 (ct 4)), (wJ g (rr 5) 1 8 (ct 5)), (wJ g (rr 6) 1 8 (ct 6)), (wJ g (rr 7) 1 8 (ct 7)), (wO10 vs vs_part vsw), (wJ g vs_part 1 12 vsp)] sz) := by
  refine Met.ofW (cc := cX0_finish) (maxL := 4) (ret := none) (by decide) rfl ?_
  intro p e s m args below meth c s₁ B hml hv
  obtain ⟨ha, hsz, hP, hK, hD0⟩ := hv
  have hx := B.exec
  have hb := B.bytes
  have hr := B.returns
  have hts0 := atoms_spec (ws := (.code yX0_finish cX0_finish 4 none :: wsL_law)) B.pre
  have hts : ∀ w ∈ wsL_law, w.before args s = true := fun w h => hts0 w (List.mem_cons_of_mem _ h)
  have hown : s.vm.findClass RX0 = some m.cls := findClass_of_methodNamed B.named
  have hlocks := B.notSynchronized
  subst hsz
  have hD := hD0.self (sz := s.heap.size)
  generalize hAe : va_A [(wO0 co n eq co_place), (wO2 n n_nodes n_kind n_pay n_name n_ways n_held n_targets n_weights), (wI g n_kind 0 12 n_fkind), (wI g n_pay 0 12 n_fpay), (wI g n_ways 0 12 n_fways), (wI g n_held 0 12 n_fheld), (wI g n_targets 0 36 n_ftargets), (wI g n_weights 0 36 n_fweights), (wI g co_place 0 12 pcf), (wO1 eq eq_rows eq_right ew), (wJ g eq_right 1 8 fr), (wR g eq_rows 5 8 (fun i => if i < 8 then some (rr i) else none)), (wJ g (rr 0) 1 8 (ct 0)), (wJ g (rr 1) 1 8 (ct 1)), (wJ g (rr 2) 1 8 (ct 2)), (wJ g (rr 3) 1 8 (ct 3)), (wJ g (rr 4) 1 8 (ct 4)), (wJ g (rr 5) 1 8 (ct 5)), (wJ g (rr 6) 1 8 (ct 6)), (wJ g (rr 7) 1 8 (ct 7)), (wO10 vs vs_part vsw), (wJ g vs_part 1 12 vsp)] s.heap.size = A at hD ⊢
  have hA : ∀ q : Nat, s.heap.size ≤ q → A q := fun q h => by rw [← hAe]; exact Or.inr h
  have hS : va_S A s.heap s.heap [] := va_S.rf
  have hP : va_P D vwCl [(wO0 co n eq co_place), (wO2 n n_nodes n_kind n_pay n_name n_ways n_held n_targets n_weights), (wI g n_kind 0 12 n_fkind), (wI g n_pay 0 12 n_fpay), (wI g n_ways 0 12 n_fways), (wI g n_held 0 12 n_fheld), (wI g n_targets 0 36 n_ftargets), (wI g n_weights 0 36 n_fweights), (wI g co_place 0 12 pcf), (wO1 eq eq_rows eq_right ew), (wJ g eq_right 1 8 fr), (wR g eq_rows 5 8 (fun i => if i < 8 then some (rr i) else none)), (wJ g (rr 0) 1 8 (ct 0)), (wJ g (rr 1) 1 8 (ct 1)), (wJ g (rr 2) 1 8 (ct 2)), (wJ g (rr 3) 1 8 (ct 3)), (wJ g (rr 4) 1 8 (ct 4)), (wJ g (rr 5) 1 8 (ct 5)), (wJ g (rr 6) 1 8 (ct 6)), (wJ g (rr 7) 1 8 (ct 7)), (wO10 vs vs_part vsw), (wJ g vs_part 1 12 vsp)] s.heap := hP
  refine W.eq (g2 := entryFrame m ([.ref co, .int p0, .ref vs] : List Value).toArray 4) (by rw [ha]) ?_
  have hl := lv_entry ([.ref co, .int p0, .ref vs]) (n := 4) (Nat.le_of_ble_eq_true rfl)
  rw [lg_entry_eq]
  generalize (lg_sl ([.ref co, .int p0, .ref vs]) ++ List.replicate (4 - (lg_sl ([.ref co, .int p0, .ref vs])).length) Slot.unset).toArray = ls at hl ⊢
  have hl : lv_has ls 4 [(0, .ref co), (1, .int p0), (2, .ref vs)] := hl
  refine lv_aload_n hx hb dX0_finish_0 rfl (lv_at hl 0 rfl) ?_
  refine va_get (D := D) (ci := 0) (v := .ref eq) (C := RX0) (T := TX0) (N := 3) hx hb hts inlX0 hown hK hP 0 rfl rfl 1 (by decide) (hts (Cond.fieldLink RX0 12 "ChanceRings$Course" "equations" "LChanceRings$Equations;") qw_517) (fun _ h9 => h9) rfl dX0_finish_1 ?_
  refine lv_iload_n hx hb dX0_finish_4 rfl (lv_at hl 1 rfl) ?_
  have hPc := hP.sub (ws' := [(wO1 eq eq_rows eq_right ew), (wJ g eq_right 1 8 fr), (wR g eq_rows 5 8 (fun i => if i < 8 then some (rr i) else none)), (wJ g (rr 0) 1 8 (ct 0)), (wJ g (rr 1) 1 8 (ct 1)), (wJ g (rr 2) 1 8 (ct 2)), (wJ g (rr 3) 1 8 (ct 3)), (wJ g (rr 4) 1 8 (ct 4)), (wJ g (rr 5) 1 8 (ct 5)), (wJ g (rr 6) 1 8 (ct 6)), (wJ g (rr 7) 1 8 (ct 7))]) [9, 10, 11, 12, 13, 14, 15, 16, 17, 18, 19] rfl
  have hDc := hD.sub (ws' := [(wO1 eq eq_rows eq_right ew), (wJ g eq_right 1 8 fr), (wR g eq_rows 5 8 (fun i => if i < 8 then some (rr i) else none)), (wJ g (rr 0) 1 8 (ct 0)), (wJ g (rr 1) 1 8 (ct 1)), (wJ g (rr 2) 1 8 (ct 2)), (wJ g (rr 3) 1 8 (ct 3)), (wJ g (rr 4) 1 8 (ct 4)), (wJ g (rr 5) 1 8 (ct 5)), (wJ g (rr 6) 1 8 (ct 6)), (wJ g (rr 7) 1 8 (ct 7))]) [9, 10, 11, 12, 13, 14, 15, 16, 17, 18, 19] (by decide) rfl
  have hFc := va_free (wc := [(wO1 eq eq_rows eq_right ew), (wJ g eq_right 1 8 fr), (wR g eq_rows 5 8 (fun i => if i < 8 then some (rr i) else none)), (wJ g (rr 0) 1 8 (ct 0)), (wJ g (rr 1) 1 8 (ct 1)), (wJ g (rr 2) 1 8 (ct 2)), (wJ g (rr 3) 1 8 (ct 3)), (wJ g (rr 4) 1 8 (ct 4)), (wJ g (rr 5) 1 8 (ct 5)), (wJ g (rr 6) 1 8 (ct 6)), (wJ g (rr 7) 1 8 (ct 7))]) hD hS hA [9, 10, 11, 12, 13, 14, 15, 16, 17, 18, 19] rfl
  refine va_callv (va_runV (As := [.int p0]) (rest := []) ⟨hx, hb, hml, hown, hts⟩ (c_X1_solve l D g s.heap.size eq p0 eq_rows eq_right ew fr rr ct (tr_w h_p0 (by decide) (by decide))) (cwV 1 hts (tz_gV qw_528 qw_529 qw_530 qw_502 qw_531) rfl rfl rfl (by decide +kernel) ⟨Nat.le_of_ble_eq_true rfl, Nat.le_of_ble_eq_true rfl⟩) ⟨tz_blQ, va_recv hK hPc (ci := 1) (q0 := 0) rfl rfl, tz_preQ hPc hK hDc⟩ rfl rfl hl.1 rfl (lv_room (Nat.le_of_ble_eq_true rfl)) dX0_finish_5 ⟨Nat.le_of_ble_eq_true rfl, Nat.le_of_ble_eq_true rfl⟩) hS (fun q _ h => hFc q h) hFc (fun u t H1 locs ht hvm hw hB hz1 hk1 hS => ?_)
  obtain ⟨oew_79178, ofr_79179, oct_79180, hP1, hD1⟩ := hB
  rw [ht] at hP1
  obtain ⟨hP, hD⟩ := va_join (wr := [(wO0 co n eq co_place), (wO2 n n_nodes n_kind n_pay n_name n_ways n_held n_targets n_weights), (wI g n_kind 0 12 n_fkind), (wI g n_pay 0 12 n_fpay), (wI g n_ways 0 12 n_fways), (wI g n_held 0 12 n_fheld), (wI g n_targets 0 36 n_ftargets), (wI g n_weights 0 36 n_fweights), (wI g co_place 0 12 pcf), (wO10 vs vs_part vsw), (wJ g vs_part 1 12 vsp)]) (w1 := [(wO1 eq eq_rows eq_right oew_79178), (wJ g eq_right 1 8 ofr_79179), (wR g eq_rows 5 8 (fun i => if i < 8 then some (rr i) else none)), (wJ g (rr 0) 1 8 (oct_79180 0)), (wJ g (rr 1) 1 8 (oct_79180 1)), (wJ g (rr 2) 1 8 (oct_79180 2)), (wJ g (rr 3) 1 8 (oct_79180 3)), (wJ g (rr 4) 1 8 (oct_79180 4)), (wJ g (rr 5) 1 8 (oct_79180 5)), (wJ g (rr 6) 1 8 (oct_79180 6)), (wJ g (rr 7) 1 8 (oct_79180 7))]) hP hD [9, 10, 11, 12, 13, 14, 15, 16, 17, 18, 19] [0, 1, 2, 3, 4, 5, 6, 7, 8, 20, 21] rfl rfl (by decide) (by decide) hk1 hFc hP1 hD1
  generalize H1 = H at hP hS ⊢
  have hP : va_P D vwCl [(wO0 co n eq co_place), (wO2 n n_nodes n_kind n_pay n_name n_ways n_held n_targets n_weights), (wI g n_kind 0 12 n_fkind), (wI g n_pay 0 12 n_fpay), (wI g n_ways 0 12 n_fways), (wI g n_held 0 12 n_fheld), (wI g n_targets 0 36 n_ftargets), (wI g n_weights 0 36 n_fweights), (wI g co_place 0 12 pcf), (wO10 vs vs_part vsw), (wJ g vs_part 1 12 vsp), (wO1 eq eq_rows eq_right oew_79178), (wJ g eq_right 1 8 ofr_79179), (wR g eq_rows 5 8 (fun i => if i < 8 then some (rr i) else none)), (wJ g (rr 0) 1 8 (oct_79180 0)), (wJ g (rr 1) 1 8 (oct_79180 1)), (wJ g (rr 2) 1 8 (oct_79180 2)), (wJ g (rr 3) 1 8 (oct_79180 3)), (wJ g (rr 4) 1 8 (oct_79180 4)), (wJ g (rr 5) 1 8 (oct_79180 5)), (wJ g (rr 6) 1 8 (oct_79180 6)), (wJ g (rr 7) 1 8 (oct_79180 7))] H := hP
  have hD : va_D A [(wO0 co n eq co_place), (wO2 n n_nodes n_kind n_pay n_name n_ways n_held n_targets n_weights), (wI g n_kind 0 12 n_fkind), (wI g n_pay 0 12 n_fpay), (wI g n_ways 0 12 n_fways), (wI g n_held 0 12 n_fheld), (wI g n_targets 0 36 n_ftargets), (wI g n_weights 0 36 n_fweights), (wI g co_place 0 12 pcf), (wO10 vs vs_part vsw), (wJ g vs_part 1 12 vsp), (wO1 eq eq_rows eq_right oew_79178), (wJ g eq_right 1 8 ofr_79179), (wR g eq_rows 5 8 (fun i => if i < 8 then some (rr i) else none)), (wJ g (rr 0) 1 8 (oct_79180 0)), (wJ g (rr 1) 1 8 (oct_79180 1)), (wJ g (rr 2) 1 8 (oct_79180 2)), (wJ g (rr 3) 1 8 (oct_79180 3)), (wJ g (rr 4) 1 8 (oct_79180 4)), (wJ g (rr 5) 1 8 (oct_79180 5)), (wJ g (rr 6) 1 8 (oct_79180 6)), (wJ g (rr 7) 1 8 (oct_79180 7))] := hD
  refine lv_aload_n hx hb dX0_finish_8 rfl (lv_at hl 2 rfl) ?_
  refine lv_aload_n hx hb dX0_finish_9 rfl (lv_at hl 0 rfl) ?_
  refine va_get (D := D) (ci := 0) (v := .ref eq) (C := RX0) (T := TX0) (N := 3) hx hb hts inlX0 hown hK hP 0 rfl rfl 1 (by decide) (hts (Cond.fieldLink RX0 12 "ChanceRings$Course" "equations" "LChanceRings$Equations;") qw_517) (fun _ h9 => h9) rfl dX0_finish_10 ?_
  refine va_get (D := D) (ci := 1) (v := .long oew_79178) (C := RX1) (T := TX1) (N := 3) hx hb hts inlX1 hown hK hP 11 rfl rfl 2 (by decide) (hts (Cond.fieldLink RX0 95 "ChanceRings$Equations" "whole" "J") qw_532) (fun _ h9 => h9) rfl dX0_finish_13 ?_
  refine va_put (D := D) (ci := 10) (v := .long oew_79178) (ty := .long) (C := RX10) (T := TX10) (N := 2) hx hb hts inlX10 tyX10 tyX10_ok nmX10 hown hK hP hD hS 9 rfl rfl 1 (by decide) (hts (Cond.fieldLink RX0 73 "ChanceRings$Values" "whole" "J") qw_533) (fun _ h9 => h9) rfl (by decide +kernel) rfl rfl (Nat.le_of_ble_eq_true rfl) dX0_finish_16 (fun H locs hP hD hS => ?_)
  have hP : va_P D vwCl [(wO0 co n eq co_place), (wO2 n n_nodes n_kind n_pay n_name n_ways n_held n_targets n_weights), (wI g n_kind 0 12 n_fkind), (wI g n_pay 0 12 n_fpay), (wI g n_ways 0 12 n_fways), (wI g n_held 0 12 n_fheld), (wI g n_targets 0 36 n_ftargets), (wI g n_weights 0 36 n_fweights), (wI g co_place 0 12 pcf), (wO10 vs vs_part oew_79178), (wJ g vs_part 1 12 vsp), (wO1 eq eq_rows eq_right oew_79178), (wJ g eq_right 1 8 ofr_79179), (wR g eq_rows 5 8 (fun i => if i < 8 then some (rr i) else none)), (wJ g (rr 0) 1 8 (oct_79180 0)), (wJ g (rr 1) 1 8 (oct_79180 1)), (wJ g (rr 2) 1 8 (oct_79180 2)), (wJ g (rr 3) 1 8 (oct_79180 3)), (wJ g (rr 4) 1 8 (oct_79180 4)), (wJ g (rr 5) 1 8 (oct_79180 5)), (wJ g (rr 6) 1 8 (oct_79180 6)), (wJ g (rr 7) 1 8 (oct_79180 7))] H := hP
  have hD : va_D A [(wO0 co n eq co_place), (wO2 n n_nodes n_kind n_pay n_name n_ways n_held n_targets n_weights), (wI g n_kind 0 12 n_fkind), (wI g n_pay 0 12 n_fpay), (wI g n_ways 0 12 n_fways), (wI g n_held 0 12 n_fheld), (wI g n_targets 0 36 n_ftargets), (wI g n_weights 0 36 n_fweights), (wI g co_place 0 12 pcf), (wO10 vs vs_part oew_79178), (wJ g vs_part 1 12 vsp), (wO1 eq eq_rows eq_right oew_79178), (wJ g eq_right 1 8 ofr_79179), (wR g eq_rows 5 8 (fun i => if i < 8 then some (rr i) else none)), (wJ g (rr 0) 1 8 (oct_79180 0)), (wJ g (rr 1) 1 8 (oct_79180 1)), (wJ g (rr 2) 1 8 (oct_79180 2)), (wJ g (rr 3) 1 8 (oct_79180 3)), (wJ g (rr 4) 1 8 (oct_79180 4)), (wJ g (rr 5) 1 8 (oct_79180 5)), (wJ g (rr 6) 1 8 (oct_79180 6)), (wJ g (rr 7) 1 8 (oct_79180 7))] := hD
  refine lv_iconst (v := 0) hx hb dX0_finish_19 (by decide) ?_
  refine lv_istore_n (lv' := [(3, .int 0), (0, .ref co), (1, .int p0), (2, .ref vs)]) hx hb dX0_finish_20 rfl hl (by decide) rfl (fun ls hl => ?_)
  have lp_79291 : ∀ (n_79291 : Nat) (x_79289 : Int32) (f_79290 : Nat → Int64) (H : Heap) (locs : List Loc) (ls : Array Slot), (0 ≤ (x_79289 : Int32).toInt ∧ (x_79289 : Int32).toInt ≤ 12) → (12 - x_79289.toInt < (n_79291 : Int)) → va_P D vwCl [(wO0 co n eq co_place), (wO2 n n_nodes n_kind n_pay n_name n_ways n_held n_targets n_weights), (wI g n_kind 0 12 n_fkind), (wI g n_pay 0 12 n_fpay), (wI g n_ways 0 12 n_fways), (wI g n_held 0 12 n_fheld), (wI g n_targets 0 36 n_ftargets), (wI g n_weights 0 36 n_fweights), (wI g co_place 0 12 pcf), (wO10 vs vs_part oew_79178), (wJ g vs_part 1 12 f_79290), (wO1 eq eq_rows eq_right oew_79178), (wJ g eq_right 1 8 ofr_79179), (wR g eq_rows 5 8 (fun i => if i < 8 then some (rr i) else none)), (wJ g (rr 0) 1 8 (oct_79180 0)), (wJ g (rr 1) 1 8 (oct_79180 1)), (wJ g (rr 2) 1 8 (oct_79180 2)), (wJ g (rr 3) 1 8 (oct_79180 3)), (wJ g (rr 4) 1 8 (oct_79180 4)), (wJ g (rr 5) 1 8 (oct_79180 5)), (wJ g (rr 6) 1 8 (oct_79180 6)), (wJ g (rr 7) 1 8 (oct_79180 7))] H → va_D A [(wO0 co n eq co_place), (wO2 n n_nodes n_kind n_pay n_name n_ways n_held n_targets n_weights), (wI g n_kind 0 12 n_fkind), (wI g n_pay 0 12 n_fpay), (wI g n_ways 0 12 n_fways), (wI g n_held 0 12 n_fheld), (wI g n_targets 0 36 n_ftargets), (wI g n_weights 0 36 n_fweights), (wI g co_place 0 12 pcf), (wO10 vs vs_part oew_79178), (wJ g vs_part 1 12 f_79290), (wO1 eq eq_rows eq_right oew_79178), (wJ g eq_right 1 8 ofr_79179), (wR g eq_rows 5 8 (fun i => if i < 8 then some (rr i) else none)), (wJ g (rr 0) 1 8 (oct_79180 0)), (wJ g (rr 1) 1 8 (oct_79180 1)), (wJ g (rr 2) 1 8 (oct_79180 2)), (wJ g (rr 3) 1 8 (oct_79180 3)), (wJ g (rr 4) 1 8 (oct_79180 4)), (wJ g (rr 5) 1 8 (oct_79180 5)), (wJ g (rr 6) 1 8 (oct_79180 6)), (wJ g (rr 7) 1 8 (oct_79180 7))] → va_S A s.heap H locs → lv_has ls 4 [(3, .int x_79289), (0, .ref co), (1, .int p0), (2, .ref vs)] → W p l e (headSpec (.code yX0_finish cX0_finish 4 none :: wsL_law) ({ frames := 2, cells := 0, slots := 0, locals := 55 })).room s m args below meth c H locs 0 0 (MQ below (va_Qv (fun (_ : Unit) => True) (fun _ t => ∃ oew : Int64, ∃ ofr : Nat → Int64, ∃ ovw : Int64, ∃ ovp : Nat → Int64, ∃ oct : Nat → Nat → Int64, va_P D vwCl [(wO0 co n eq co_place), (wO2 n n_nodes n_kind n_pay n_name n_ways n_held n_targets n_weights), (wI g n_kind 0 12 n_fkind), (wI g n_pay 0 12 n_fpay), (wI g n_ways 0 12 n_fways), (wI g n_held 0 12 n_fheld), (wI g n_targets 0 36 n_ftargets), (wI g n_weights 0 36 n_fweights), (wI g co_place 0 12 pcf), (wO1 eq eq_rows eq_right oew), (wJ g eq_right 1 8 ofr), (wR g eq_rows 5 8 (fun i => if i < 8 then some (rr i) else none)), (wJ g (rr 0) 1 8 (oct 0)), (wJ g (rr 1) 1 8 (oct 1)), (wJ g (rr 2) 1 8 (oct 2)), (wJ g (rr 3) 1 8 (oct 3)), (wJ g (rr 4) 1 8 (oct 4)), (wJ g (rr 5) 1 8 (oct 5)), (wJ g (rr 6) 1 8 (oct 6)), (wJ g (rr 7) 1 8 (oct 7)), (wO10 vs vs_part ovw), (wJ g vs_part 1 12 ovp)] t.heap ∧ va_D A [(wO0 co n eq co_place), (wO2 n n_nodes n_kind n_pay n_name n_ways n_held n_targets n_weights), (wI g n_kind 0 12 n_fkind), (wI g n_pay 0 12 n_fpay), (wI g n_ways 0 12 n_fways), (wI g n_held 0 12 n_fheld), (wI g n_targets 0 36 n_ftargets), (wI g n_weights 0 36 n_fweights), (wI g co_place 0 12 pcf), (wO1 eq eq_rows eq_right oew), (wJ g eq_right 1 8 ofr), (wR g eq_rows 5 8 (fun i => if i < 8 then some (rr i) else none)), (wJ g (rr 0) 1 8 (oct 0)), (wJ g (rr 1) 1 8 (oct 1)), (wJ g (rr 2) 1 8 (oct 2)), (wJ g (rr 3) 1 8 (oct 3)), (wJ g (rr 4) 1 8 (oct 4)), (wJ g (rr 5) 1 8 (oct 5)), (wJ g (rr 6) 1 8 (oct 6)), (wJ g (rr 7) 1 8 (oct 7)), (wO10 vs vs_part ovw), (wJ g vs_part 1 12 ovp)]) A) args s 0 0 A) (F0 m 21 ls []) := by
    intro n_79291
    induction n_79291 with
    | zero =>
      intro x_79289 f_79290 H locs ls h_x_79289 hm_79291 hP hD hS hl
      exfalso; omega
    | succ n_79291 ih_79291 =>
      intro x_79289 f_79290 H locs ls h_x_79289 hm_79291 hP hD hS hl
      refine lv_iload_n hx hb dX0_finish_21 rfl (lv_at hl 0 rfl) ?_
      refine lv_aload_n hx hb dX0_finish_22 rfl (lv_at hl 1 rfl) ?_
      refine va_get (D := D) (ci := 0) (v := .ref n) (C := RX0) (T := TX0) (N := 3) hx hb hts inlX0 hown hK hP 0 rfl rfl 0 (by decide) (hts (Cond.fieldLink RX0 22 "ChanceRings$Course" "net" "LChanceRings$Net;") qw_483) (fun _ h9 => h9) rfl dX0_finish_23 ?_
      refine va_get (D := D) (ci := 2) (v := .int n_nodes) (C := RX2) (T := TX2) (N := 8) hx hb hts inlX2 hown hK hP 1 rfl rfl 0 (by decide) (hts (Cond.fieldLink RX0 49 "ChanceRings$Net" "nodes" "I") qw_493) (fun _ h9 => h9) rfl dX0_finish_26 ?_
      refine lv_icmp_ge (tgt := 72) hx hb dX0_finish_29 (by decide) (fun c_79292 => ?_) (fun c_79292 => ?_)
      · skip
        have hP9 := hP.sub (ws' := [(wO0 co n eq co_place), (wO2 n n_nodes n_kind n_pay n_name n_ways n_held n_targets n_weights), (wI g n_kind 0 12 n_fkind), (wI g n_pay 0 12 n_fpay), (wI g n_ways 0 12 n_fways), (wI g n_held 0 12 n_fheld), (wI g n_targets 0 36 n_ftargets), (wI g n_weights 0 36 n_fweights), (wI g co_place 0 12 pcf), (wO1 eq eq_rows eq_right oew_79178), (wJ g eq_right 1 8 ofr_79179), (wR g eq_rows 5 8 (fun i => if i < 8 then some (rr i) else none)), (wJ g (rr 0) 1 8 (oct_79180 0)), (wJ g (rr 1) 1 8 (oct_79180 1)), (wJ g (rr 2) 1 8 (oct_79180 2)), (wJ g (rr 3) 1 8 (oct_79180 3)), (wJ g (rr 4) 1 8 (oct_79180 4)), (wJ g (rr 5) 1 8 (oct_79180 5)), (wJ g (rr 6) 1 8 (oct_79180 6)), (wJ g (rr 7) 1 8 (oct_79180 7)), (wO10 vs vs_part oew_79178), (wJ g vs_part 1 12 f_79290)]) [0, 1, 2, 3, 4, 5, 6, 7, 8, 11, 12, 13, 14, 15, 16, 17, 18, 19, 20, 21, 9, 10] rfl
        have hD9 := hD.sub (ws' := [(wO0 co n eq co_place), (wO2 n n_nodes n_kind n_pay n_name n_ways n_held n_targets n_weights), (wI g n_kind 0 12 n_fkind), (wI g n_pay 0 12 n_fpay), (wI g n_ways 0 12 n_fways), (wI g n_held 0 12 n_fheld), (wI g n_targets 0 36 n_ftargets), (wI g n_weights 0 36 n_fweights), (wI g co_place 0 12 pcf), (wO1 eq eq_rows eq_right oew_79178), (wJ g eq_right 1 8 ofr_79179), (wR g eq_rows 5 8 (fun i => if i < 8 then some (rr i) else none)), (wJ g (rr 0) 1 8 (oct_79180 0)), (wJ g (rr 1) 1 8 (oct_79180 1)), (wJ g (rr 2) 1 8 (oct_79180 2)), (wJ g (rr 3) 1 8 (oct_79180 3)), (wJ g (rr 4) 1 8 (oct_79180 4)), (wJ g (rr 5) 1 8 (oct_79180 5)), (wJ g (rr 6) 1 8 (oct_79180 6)), (wJ g (rr 7) 1 8 (oct_79180 7)), (wO10 vs vs_part oew_79178), (wJ g vs_part 1 12 f_79290)]) [0, 1, 2, 3, 4, 5, 6, 7, 8, 11, 12, 13, 14, 15, 16, 17, 18, 19, 20, 21, 9, 10] (by decide) rfl
        exact W.vret hx hb hr (fun t ht hW => ⟨⟨(), rfl, trivial, oew_79178, ofr_79179, oew_79178, f_79290, oct_79180, by rw [ht]; exact hP9, hD9⟩, hS.F ht⟩) hS.2.2 dX0_finish_72
      · skip
        have c_79292_i := Int32.lt_iff_toInt_lt.mp (Int32.not_le.mp c_79292)
        have h_79293 : 0 ≤ (x_79289 : Int32).toInt ∧ (x_79289 : Int32).toInt ≤ 11 := nr_lt_l h_x_79289 h_n_nodes c_79292_i (by decide) (by decide)
        have h_79294 : 1 ≤ (n_nodes : Int32).toInt ∧ (n_nodes : Int32).toInt ≤ 12 := nr_lt_r h_x_79289 h_n_nodes c_79292_i (by decide) (by decide)
        refine lv_aload_n hx hb dX0_finish_32 rfl (lv_at hl 3 rfl) ?_
        refine va_get (D := D) (ci := 10) (v := .ref vs_part) (C := RX10) (T := TX10) (N := 2) hx hb hts inlX10 hown hK hP 9 rfl rfl 0 (by decide) (hts (Cond.fieldLink RX0 65 "ChanceRings$Values" "part" "[J") qw_534) (fun _ h9 => h9) rfl dX0_finish_33 ?_
        refine lv_iload_n hx hb dX0_finish_36 rfl (lv_at hl 0 rfl) ?_
        refine lv_aload_n hx hb dX0_finish_37 rfl (lv_at hl 1 rfl) ?_
        refine va_get (D := D) (ci := 0) (v := .ref co_place) (C := RX0) (T := TX0) (N := 3) hx hb hts inlX0 hown hK hP 0 rfl rfl 2 (by decide) (hts (Cond.fieldLink RX0 18 "ChanceRings$Course" "place" "[I") qw_494) (fun _ h9 => h9) rfl dX0_finish_38 ?_
        refine lv_iload_n hx hb dX0_finish_41 rfl (lv_at hl 0 rfl) ?_
        refine va_iald hx hb hK hP 8 0 rfl rfl (tr_in h_79293 (by decide) (by decide)) dX0_finish_42 ?_
        refine lv_topi (fun v_79295 v_79295_e => ?_)
        have h_v_79295 : (-1) ≤ (v_79295 : Int32).toInt ∧ (v_79295 : Int32).toInt ≤ 7 := by rw [v_79295_e]; exact h_pcf _
        refine lv_iconst (v := (-1)) hx hb dX0_finish_43 (by decide) ?_
        refine lv_icmp_ne (tgt := 51) hx hb dX0_finish_44 (by decide) (fun c_79296 => ?_) (fun c_79296 => ?_)
        · skip
          have c_79296_i : ¬ (v_79295 : Int32).toInt = ((-1) : Int32).toInt := (fun q => c_79296 (Int32.toInt_inj.mp q))
          have h_79297 : 0 ≤ (v_79295 : Int32).toInt ∧ (v_79295 : Int32).toInt ≤ 7 := nr_ne_l h_v_79295 (⟨by decide, by decide⟩ : (-1) ≤ ((-1) : Int32).toInt ∧ ((-1) : Int32).toInt ≤ (-1)) c_79296_i (by decide) (by decide)
          refine lv_aload_n hx hb dX0_finish_51 rfl (lv_at hl 1 rfl) ?_
          refine va_get (D := D) (ci := 0) (v := .ref eq) (C := RX0) (T := TX0) (N := 3) hx hb hts inlX0 hown hK hP 0 rfl rfl 1 (by decide) (hts (Cond.fieldLink RX0 12 "ChanceRings$Course" "equations" "LChanceRings$Equations;") qw_517) (fun _ h9 => h9) rfl dX0_finish_52 ?_
          refine va_get (D := D) (ci := 1) (v := .ref eq_right) (C := RX1) (T := TX1) (N := 3) hx hb hts inlX1 hown hK hP 11 rfl rfl 1 (by decide) (hts (Cond.fieldLink RX0 53 "ChanceRings$Equations" "right" "[J") qw_535) (fun _ h9 => h9) rfl dX0_finish_55 ?_
          refine lv_aload_n hx hb dX0_finish_58 rfl (lv_at hl 1 rfl) ?_
          refine va_get (D := D) (ci := 0) (v := .ref co_place) (C := RX0) (T := TX0) (N := 3) hx hb hts inlX0 hown hK hP 0 rfl rfl 2 (by decide) (hts (Cond.fieldLink RX0 18 "ChanceRings$Course" "place" "[I") qw_494) (fun _ h9 => h9) rfl dX0_finish_59 ?_
          refine lv_iload_n hx hb dX0_finish_62 rfl (lv_at hl 0 rfl) ?_
          refine va_iald hx hb hK hP 8 0 rfl rfl (tr_in h_79293 (by decide) (by decide)) dX0_finish_63 ?_
          refine tz_i (y := v_79295) v_79295_e.symm ?_
          refine va_lald hx hb hK hP 12 1 rfl rfl (tr_in h_79297 (by decide) (by decide)) dX0_finish_64 ?_
          refine lv_topl (fun w_79299 _ => ?_)
          refine va_last hx hb hK hP hD hS 10 1 rfl rfl (tr_in h_79293 (by decide) (by decide)) dX0_finish_65 (fun H locs hP hD hS => ?_)
          obtain ⟨f_79300, hP, hD⟩ : ∃ FX : Nat → Int64, va_P D vwCl [(wO0 co n eq co_place), (wO2 n n_nodes n_kind n_pay n_name n_ways n_held n_targets n_weights), (wI g n_kind 0 12 n_fkind), (wI g n_pay 0 12 n_fpay), (wI g n_ways 0 12 n_fways), (wI g n_held 0 12 n_fheld), (wI g n_targets 0 36 n_ftargets), (wI g n_weights 0 36 n_fweights), (wI g co_place 0 12 pcf), (wO10 vs vs_part oew_79178), (wJ g vs_part 1 12 FX), (wO1 eq eq_rows eq_right oew_79178), (wJ g eq_right 1 8 ofr_79179), (wR g eq_rows 5 8 (fun i => if i < 8 then some (rr i) else none)), (wJ g (rr 0) 1 8 (oct_79180 0)), (wJ g (rr 1) 1 8 (oct_79180 1)), (wJ g (rr 2) 1 8 (oct_79180 2)), (wJ g (rr 3) 1 8 (oct_79180 3)), (wJ g (rr 4) 1 8 (oct_79180 4)), (wJ g (rr 5) 1 8 (oct_79180 5)), (wJ g (rr 6) 1 8 (oct_79180 6)), (wJ g (rr 7) 1 8 (oct_79180 7))] H ∧ va_D A [(wO0 co n eq co_place), (wO2 n n_nodes n_kind n_pay n_name n_ways n_held n_targets n_weights), (wI g n_kind 0 12 n_fkind), (wI g n_pay 0 12 n_fpay), (wI g n_ways 0 12 n_fways), (wI g n_held 0 12 n_fheld), (wI g n_targets 0 36 n_ftargets), (wI g n_weights 0 36 n_fweights), (wI g co_place 0 12 pcf), (wO10 vs vs_part oew_79178), (wJ g vs_part 1 12 FX), (wO1 eq eq_rows eq_right oew_79178), (wJ g eq_right 1 8 ofr_79179), (wR g eq_rows 5 8 (fun i => if i < 8 then some (rr i) else none)), (wJ g (rr 0) 1 8 (oct_79180 0)), (wJ g (rr 1) 1 8 (oct_79180 1)), (wJ g (rr 2) 1 8 (oct_79180 2)), (wJ g (rr 3) 1 8 (oct_79180 3)), (wJ g (rr 4) 1 8 (oct_79180 4)), (wJ g (rr 5) 1 8 (oct_79180 5)), (wJ g (rr 6) 1 8 (oct_79180 6)), (wJ g (rr 7) 1 8 (oct_79180 7))] := ⟨_, hP, hD⟩
          have hP : va_P D vwCl [(wO0 co n eq co_place), (wO2 n n_nodes n_kind n_pay n_name n_ways n_held n_targets n_weights), (wI g n_kind 0 12 n_fkind), (wI g n_pay 0 12 n_fpay), (wI g n_ways 0 12 n_fways), (wI g n_held 0 12 n_fheld), (wI g n_targets 0 36 n_ftargets), (wI g n_weights 0 36 n_fweights), (wI g co_place 0 12 pcf), (wO10 vs vs_part oew_79178), (wJ g vs_part 1 12 f_79300), (wO1 eq eq_rows eq_right oew_79178), (wJ g eq_right 1 8 ofr_79179), (wR g eq_rows 5 8 (fun i => if i < 8 then some (rr i) else none)), (wJ g (rr 0) 1 8 (oct_79180 0)), (wJ g (rr 1) 1 8 (oct_79180 1)), (wJ g (rr 2) 1 8 (oct_79180 2)), (wJ g (rr 3) 1 8 (oct_79180 3)), (wJ g (rr 4) 1 8 (oct_79180 4)), (wJ g (rr 5) 1 8 (oct_79180 5)), (wJ g (rr 6) 1 8 (oct_79180 6)), (wJ g (rr 7) 1 8 (oct_79180 7))] H := hP
          have hD : va_D A [(wO0 co n eq co_place), (wO2 n n_nodes n_kind n_pay n_name n_ways n_held n_targets n_weights), (wI g n_kind 0 12 n_fkind), (wI g n_pay 0 12 n_fpay), (wI g n_ways 0 12 n_fways), (wI g n_held 0 12 n_fheld), (wI g n_targets 0 36 n_ftargets), (wI g n_weights 0 36 n_fweights), (wI g co_place 0 12 pcf), (wO10 vs vs_part oew_79178), (wJ g vs_part 1 12 f_79300), (wO1 eq eq_rows eq_right oew_79178), (wJ g eq_right 1 8 ofr_79179), (wR g eq_rows 5 8 (fun i => if i < 8 then some (rr i) else none)), (wJ g (rr 0) 1 8 (oct_79180 0)), (wJ g (rr 1) 1 8 (oct_79180 1)), (wJ g (rr 2) 1 8 (oct_79180 2)), (wJ g (rr 3) 1 8 (oct_79180 3)), (wJ g (rr 4) 1 8 (oct_79180 4)), (wJ g (rr 5) 1 8 (oct_79180 5)), (wJ g (rr 6) 1 8 (oct_79180 6)), (wJ g (rr 7) 1 8 (oct_79180 7))] := hD
          obtain ⟨v_79301, v_79301_e⟩ : ∃ y : Int32, y = x_79289 + Int32.ofInt 1 := ⟨_, rfl⟩
          have h_v_79301 : 1 ≤ (v_79301 : Int32).toInt ∧ (v_79301 : Int32).toInt ≤ 12 := by rw [v_79301_e]; exact tr_add h_79293 (⟨by decide, by decide⟩ : 1 ≤ (Int32.ofInt 1 : Int32).toInt ∧ (Int32.ofInt 1 : Int32).toInt ≤ 1) (by decide) (by decide) (by decide) (by decide)
          have q_v_79301 : v_79301.toInt = x_79289.toInt + 1 := by rw [v_79301_e]; exact tr_addE h_79293 (⟨by decide, by decide⟩ : 1 ≤ (Int32.ofInt 1 : Int32).toInt ∧ (Int32.ofInt 1 : Int32).toInt ≤ 1) (by decide) (by decide)
          refine lv_iinc (v := v_79301) (lv' := [(3, .int v_79301), (0, .ref co), (1, .int p0), (2, .ref vs)]) hx hb dX0_finish_66 hl (k := 0) rfl v_79301_e.symm (by decide) rfl (fun ls hl => ?_)
          refine lv_goto (tgt := 21) hx hb dX0_finish_69 (by decide) ?_
          exact ih_79291 v_79301 f_79300 H _ ls (tr_w h_v_79301 (by decide) (by decide)) (by (first | (clear h_p0 h_v_79295 c_79296_i h_79297; omega) | omega)) (hP.sub [0, 1, 2, 3, 4, 5, 6, 7, 8, 9, 10, 11, 12, 13, 14, 15, 16, 17, 18, 19, 20, 21] rfl) (hD.sub [0, 1, 2, 3, 4, 5, 6, 7, 8, 9, 10, 11, 12, 13, 14, 15, 16, 17, 18, 19, 20, 21] (by decide) rfl) hS (lv_sub hl [0, 1, 2, 3] rfl)
        · skip
          have c_79296_i : (v_79295 : Int32).toInt = ((-1) : Int32).toInt := congrArg Int32.toInt c_79296
          have h_79298 : (-1) ≤ (v_79295 : Int32).toInt ∧ (v_79295 : Int32).toInt ≤ (-1) := nr_eq_l h_v_79295 (⟨by decide, by decide⟩ : (-1) ≤ ((-1) : Int32).toInt ∧ ((-1) : Int32).toInt ≤ (-1)) c_79296_i (by decide) (by decide)
          refine lv_lconst (v := 0) hx hb dX0_finish_47 (by decide) ?_
          refine lv_goto (tgt := 65) hx hb dX0_finish_48 (by decide) ?_
          refine va_last hx hb hK hP hD hS 10 1 rfl rfl (tr_in h_79293 (by decide) (by decide)) dX0_finish_65 (fun H locs hP hD hS => ?_)
          obtain ⟨f_79302, hP, hD⟩ : ∃ FX : Nat → Int64, va_P D vwCl [(wO0 co n eq co_place), (wO2 n n_nodes n_kind n_pay n_name n_ways n_held n_targets n_weights), (wI g n_kind 0 12 n_fkind), (wI g n_pay 0 12 n_fpay), (wI g n_ways 0 12 n_fways), (wI g n_held 0 12 n_fheld), (wI g n_targets 0 36 n_ftargets), (wI g n_weights 0 36 n_fweights), (wI g co_place 0 12 pcf), (wO10 vs vs_part oew_79178), (wJ g vs_part 1 12 FX), (wO1 eq eq_rows eq_right oew_79178), (wJ g eq_right 1 8 ofr_79179), (wR g eq_rows 5 8 (fun i => if i < 8 then some (rr i) else none)), (wJ g (rr 0) 1 8 (oct_79180 0)), (wJ g (rr 1) 1 8 (oct_79180 1)), (wJ g (rr 2) 1 8 (oct_79180 2)), (wJ g (rr 3) 1 8 (oct_79180 3)), (wJ g (rr 4) 1 8 (oct_79180 4)), (wJ g (rr 5) 1 8 (oct_79180 5)), (wJ g (rr 6) 1 8 (oct_79180 6)), (wJ g (rr 7) 1 8 (oct_79180 7))] H ∧ va_D A [(wO0 co n eq co_place), (wO2 n n_nodes n_kind n_pay n_name n_ways n_held n_targets n_weights), (wI g n_kind 0 12 n_fkind), (wI g n_pay 0 12 n_fpay), (wI g n_ways 0 12 n_fways), (wI g n_held 0 12 n_fheld), (wI g n_targets 0 36 n_ftargets), (wI g n_weights 0 36 n_fweights), (wI g co_place 0 12 pcf), (wO10 vs vs_part oew_79178), (wJ g vs_part 1 12 FX), (wO1 eq eq_rows eq_right oew_79178), (wJ g eq_right 1 8 ofr_79179), (wR g eq_rows 5 8 (fun i => if i < 8 then some (rr i) else none)), (wJ g (rr 0) 1 8 (oct_79180 0)), (wJ g (rr 1) 1 8 (oct_79180 1)), (wJ g (rr 2) 1 8 (oct_79180 2)), (wJ g (rr 3) 1 8 (oct_79180 3)), (wJ g (rr 4) 1 8 (oct_79180 4)), (wJ g (rr 5) 1 8 (oct_79180 5)), (wJ g (rr 6) 1 8 (oct_79180 6)), (wJ g (rr 7) 1 8 (oct_79180 7))] := ⟨_, hP, hD⟩
          have hP : va_P D vwCl [(wO0 co n eq co_place), (wO2 n n_nodes n_kind n_pay n_name n_ways n_held n_targets n_weights), (wI g n_kind 0 12 n_fkind), (wI g n_pay 0 12 n_fpay), (wI g n_ways 0 12 n_fways), (wI g n_held 0 12 n_fheld), (wI g n_targets 0 36 n_ftargets), (wI g n_weights 0 36 n_fweights), (wI g co_place 0 12 pcf), (wO10 vs vs_part oew_79178), (wJ g vs_part 1 12 f_79302), (wO1 eq eq_rows eq_right oew_79178), (wJ g eq_right 1 8 ofr_79179), (wR g eq_rows 5 8 (fun i => if i < 8 then some (rr i) else none)), (wJ g (rr 0) 1 8 (oct_79180 0)), (wJ g (rr 1) 1 8 (oct_79180 1)), (wJ g (rr 2) 1 8 (oct_79180 2)), (wJ g (rr 3) 1 8 (oct_79180 3)), (wJ g (rr 4) 1 8 (oct_79180 4)), (wJ g (rr 5) 1 8 (oct_79180 5)), (wJ g (rr 6) 1 8 (oct_79180 6)), (wJ g (rr 7) 1 8 (oct_79180 7))] H := hP
          have hD : va_D A [(wO0 co n eq co_place), (wO2 n n_nodes n_kind n_pay n_name n_ways n_held n_targets n_weights), (wI g n_kind 0 12 n_fkind), (wI g n_pay 0 12 n_fpay), (wI g n_ways 0 12 n_fways), (wI g n_held 0 12 n_fheld), (wI g n_targets 0 36 n_ftargets), (wI g n_weights 0 36 n_fweights), (wI g co_place 0 12 pcf), (wO10 vs vs_part oew_79178), (wJ g vs_part 1 12 f_79302), (wO1 eq eq_rows eq_right oew_79178), (wJ g eq_right 1 8 ofr_79179), (wR g eq_rows 5 8 (fun i => if i < 8 then some (rr i) else none)), (wJ g (rr 0) 1 8 (oct_79180 0)), (wJ g (rr 1) 1 8 (oct_79180 1)), (wJ g (rr 2) 1 8 (oct_79180 2)), (wJ g (rr 3) 1 8 (oct_79180 3)), (wJ g (rr 4) 1 8 (oct_79180 4)), (wJ g (rr 5) 1 8 (oct_79180 5)), (wJ g (rr 6) 1 8 (oct_79180 6)), (wJ g (rr 7) 1 8 (oct_79180 7))] := hD
          obtain ⟨v_79303, v_79303_e⟩ : ∃ y : Int32, y = x_79289 + Int32.ofInt 1 := ⟨_, rfl⟩
          have h_v_79303 : 1 ≤ (v_79303 : Int32).toInt ∧ (v_79303 : Int32).toInt ≤ 12 := by rw [v_79303_e]; exact tr_add h_79293 (⟨by decide, by decide⟩ : 1 ≤ (Int32.ofInt 1 : Int32).toInt ∧ (Int32.ofInt 1 : Int32).toInt ≤ 1) (by decide) (by decide) (by decide) (by decide)
          have q_v_79303 : v_79303.toInt = x_79289.toInt + 1 := by rw [v_79303_e]; exact tr_addE h_79293 (⟨by decide, by decide⟩ : 1 ≤ (Int32.ofInt 1 : Int32).toInt ∧ (Int32.ofInt 1 : Int32).toInt ≤ 1) (by decide) (by decide)
          refine lv_iinc (v := v_79303) (lv' := [(3, .int v_79303), (0, .ref co), (1, .int p0), (2, .ref vs)]) hx hb dX0_finish_66 hl (k := 0) rfl v_79303_e.symm (by decide) rfl (fun ls hl => ?_)
          refine lv_goto (tgt := 21) hx hb dX0_finish_69 (by decide) ?_
          exact ih_79291 v_79303 f_79302 H _ ls (tr_w h_v_79303 (by decide) (by decide)) (by (first | (clear h_p0 h_v_79295 c_79296_i h_79298; omega) | omega)) (hP.sub [0, 1, 2, 3, 4, 5, 6, 7, 8, 9, 10, 11, 12, 13, 14, 15, 16, 17, 18, 19, 20, 21] rfl) (hD.sub [0, 1, 2, 3, 4, 5, 6, 7, 8, 9, 10, 11, 12, 13, 14, 15, 16, 17, 18, 19, 20, 21] (by decide) rfl) hS (lv_sub hl [0, 1, 2, 3] rfl)
  exact lp_79291 13 0 vsp H _ ls (⟨by decide, by decide⟩ : 0 ≤ (0 : Int32).toInt ∧ (0 : Int32).toInt ≤ 12) (by decide) (hP.sub [0, 1, 2, 3, 4, 5, 6, 7, 8, 9, 10, 11, 12, 13, 14, 15, 16, 17, 18, 19, 20, 21] rfl) (hD.sub [0, 1, 2, 3, 4, 5, 6, 7, 8, 9, 10, 11, 12, 13, 14, 15, 16, 17, 18, 19, 20, 21] (by decide) rfl) hS (lv_sub hl [0, 1, 2, 3] rfl)
set_option maxHeartbeats 4000000 in
set_option maxRecDepth 100000 in
theorem c_X0_expectPay (l : Launch) (D : va_G) (g : Nat → ClassId) (sz : Nat) (co : Nat) (pl : Nat) (p0 : Int32) (p1 : Int32) (p2 : Int32) (vs : Nat) (n : Nat) (eq : Nat) (co_place : Nat) (n_nodes : Int32) (n_kind : Nat) (n_pay : Nat) (n_name : Nat) (n_ways : Nat) (n_held : Nat) (n_targets : Nat) (n_weights : Nat) (n_fkind : Nat → Int32) (n_fpay : Nat → Int32) (n_fways : Nat → Int32) (n_fheld : Nat → Int32) (n_ftargets : Nat → Int32) (n_fweights : Nat → Int32) (pcf : Nat → Int32) (eq_rows : Nat) (eq_right : Nat) (ew : Int64) (fr : Nat → Int64) (rr : Nat → Nat) (ct : Nat → Nat → Int64) (plf : Nat → Int32) (vs_part : Nat) (vsw : Int64) (vsp : Nat → Int64) (h_n_nodes : 0 ≤ (n_nodes : Int32).toInt ∧ (n_nodes : Int32).toInt ≤ 12) (h_n_fkind : ∀ j : Nat, 0 ≤ (n_fkind j).toInt ∧ (n_fkind j).toInt ≤ 3) (h_n_fways : ∀ j : Nat, 0 ≤ (n_fways j).toInt ∧ (n_fways j).toInt ≤ 3) (h_n_fheld : ∀ j : Nat, (-1) ≤ (n_fheld j).toInt ∧ (n_fheld j).toInt ≤ 2) (h_n_ftargets : ∀ j : Nat, 0 ≤ (n_ftargets j).toInt ∧ (n_ftargets j).toInt ≤ 11) (h_pcf : ∀ j : Nat, (-1) ≤ (pcf j).toInt ∧ (pcf j).toInt ≤ 7) (h_plf : ∀ j : Nat, 0 ≤ (plf j).toInt ∧ (plf j).toInt ≤ 2) : Met l yX0_expectPay (.code yX0_expectPay cX0_expectPay 8 none :: wsL_law) ({ frames := 3, cells := 0, slots := 0, locals := 78 }) (va_Pc [.ref co, .ref pl, .int p0, .int p1, .int p2, .ref vs] (fun U => U.heap.size = sz ∧ va_P D vwCl [(wO0 co n eq co_place), (wO2 n n_nodes n_kind n_pay n_name n_ways n_held n_targets n_weights), (wI g n_kind 0 12 n_fkind), (wI g n_pay 0 12 n_fpay), (wI g n_ways 0 12 n_fways), (wI g n_held 0 12 n_fheld), (wI g n_targets 0 36 n_ftargets), (wI g n_weights 0 36 n_fweights), (wI g co_place 0 12 pcf), (wO1 eq eq_rows eq_right ew), (wJ g eq_right 1 8 fr), (wR g eq_rows 5 8 (fun i => if i < 8 then some (rr i) else none)), (wJ g (rr 0) 1 8 (ct 0)), (wJ g (rr 1) 1 8 (ct 1)), (wJ g (rr 2) 1 8 (ct 2)), (wJ g (rr 3) 1 8 (ct 3)), (wJ g (rr 4) 1 8 (ct 4)), (wJ g (rr 5) 1 8 (ct 5)), (wJ g (rr 6) 1 8 (ct 6)), (wJ g (rr 7) 1 8 (ct 7)), (wI g pl 0 12 plf), (wO10 vs vs_part vsw), (wJ g vs_part 1 12 vsp)] U.heap ∧ va_K D vwCl (TY g) U ∧ va_D (fun _ => True) [(wO0 co n eq co_place), (wO2 n n_nodes n_kind n_pay n_name n_ways n_held n_targets n_weights), (wI g n_kind 0 12 n_fkind), (wI g n_pay 0 12 n_fpay), (wI g n_ways 0 12 n_fways), (wI g n_held 0 12 n_fheld), (wI g n_targets 0 36 n_ftargets), (wI g n_weights 0 36 n_fweights), (wI g co_place 0 12 pcf), (wO1 eq eq_rows eq_right ew), (wJ g eq_right 1 8 fr), (wR g eq_rows 5 8 (fun i => if i < 8 then some (rr i) else none)), (wJ g (rr 0) 1 8 (ct 0)), (wJ g (rr 1) 1 8 (ct 1)), (wJ g (rr 2) 1 8 (ct 2)), (wJ g (rr 3) 1 8 (ct 3)), (wJ g (rr 4) 1 8 (ct 4)), (wJ g (rr 5) 1 8 (ct 5)), (wJ g (rr 6) 1 8 (ct 6)), (wJ g (rr 7) 1 8 (ct 7)), (wI g pl 0 12 plf), (wO10 vs vs_part vsw), (wJ g vs_part 1 12 vsp)])) (va_Qv (fun (_ : Unit) => True) (fun _ t => ∃ opc : Nat → Int32, ∃ oew : Int64, ∃ ofr : Nat → Int64, ∃ ovw : Int64, ∃ ovp : Nat → Int64, ∃ oct : Nat → Nat → Int64, (∀ j : Nat, (-1) ≤ (opc j).toInt ∧ (opc j).toInt ≤ 7) ∧ va_P D vwCl [(wO0 co n eq co_place), (wO2 n n_nodes n_kind n_pay n_name n_ways n_held n_targets n_weights), (wI g n_kind 0 12 n_fkind), (wI g n_pay 0 12 n_fpay), (wI g n_ways 0 12 n_fways), (wI g n_held 0 12 n_fheld), (wI g n_targets 0 36 n_ftargets), (wI g n_weights 0 36 n_fweights), (wI g co_place 0 12 opc), (wO1 eq eq_rows eq_right oew), (wJ g eq_right 1 8 ofr), (wR g eq_rows 5 8 (fun i => if i < 8 then some (rr i) else none)), (wJ g (rr 0) 1 8 (oct 0)), (wJ g (rr 1) 1 8 (oct 1)), (wJ g (rr 2) 1 8 (oct 2)), (wJ g (rr 3) 1 8 (oct 3)), (wJ g (rr 4) 1 8 (oct 4)), (wJ g (rr 5) 1 8 (oct 5)), (wJ g (rr 6) 1 8 (oct 6)), (wJ g (rr 7) 1 8 (oct 7)), (wI g pl 0 12 plf), (wO10 vs vs_part ovw), (wJ g vs_part 1 12 ovp)] t.heap ∧ va_D (va_A [(wO0 co n eq co_place), (wO2 n n_nodes n_kind n_pay n_name n_ways n_held n_targets n_weights), (wI g n_kind 0 12 n_fkind), (wI g n_pay 0 12 n_fpay), (wI g n_ways 0 12 n_fways), (wI g n_held 0 12 n_fheld), (wI g n_targets 0 36 n_ftargets), (wI g n_weights 0 36 n_fweights), (wI g co_place 0 12 pcf), (wO1 eq eq_rows eq_right ew), (wJ g eq_right 1 8 fr), (wR g eq_rows 5 8 (fun i => if i < 8 then some (rr i) else none)), (wJ g (rr 0) 1 8 (ct 0)), (wJ g (rr 1) 1 8 (ct 1)), (wJ g (rr 2) 1 8 (ct 2)), (wJ g (rr 3) 1 8 (ct 3)), (wJ g (rr 4) 1 8 (ct 4)), (wJ g (rr 5) 1 8 (ct 5)), (wJ g (rr 6) 1 8 (ct 6)), (wJ g (rr 7) 1 8 (ct 7)), (wI g pl 0 12 plf), (wO10 vs vs_part vsw), (wJ g vs_part 1 12 vsp)] sz) [(wO0 co n eq co_place), (wO2 n n_nodes n_kind n_pay n_name n_ways n_held n_targets n_weights), (wI g n_kind 0 12 n_fkind), (wI g n_pay 0 12 n_fpay), (wI g n_ways 0 12 n_fways), (wI g n_held 0 12 n_fheld), (wI g n_targets 0 36 n_ftargets), (wI g n_weights 0 36 n_fweights), (wI g co_place 0 12 opc), (wO1 eq eq_rows eq_right oew), (wJ g eq_right 1 8 ofr), (wR g eq_rows 5 8 (fun i => if i < 8 then some (rr i) else none)), (wJ g (rr 0) 1 8 (oct 0)), (wJ g (rr 1) 1 8 (oct 1)), (wJ g (rr 2) 1 8 (oct 2)), (wJ g (rr 3) 1 8 (oct 3)), (wJ g (rr 4) 1 8 (oct 4)), (wJ g (rr 5) 1 8 (oct 5)), (wJ g (rr 6) 1 8 (oct 6)), (wJ g (rr 7) 1 8 (oct 7)), (wI g pl 0 12 plf), (wO10 vs vs_part ovw), (wJ g vs_part 1 12 ovp)]) (va_A [(wO0 co n eq co_place), (wO2 n n_nodes n_kind n_pay n_name n_ways n_held n_targets n_weights), (wI g n_kind 0 12 n_fkind), (wI g n_pay 0 12 n_fpay), (wI g n_ways 0 12 n_fways), (wI g n_held 0 12 n_fheld), (wI g n_targets 0 36 n_ftargets), (wI g n_weights 0 36 n_fweights), (wI g co_place 0 12 pcf), (wO1 eq eq_rows eq_right ew), (wJ g eq_right 1 8 fr), (wR g eq_rows 5 8 (fun i => if i < 8 then some (rr i) else none)), (wJ g (rr 0) 1 8 (ct 0)), (wJ g (rr 1) 1 8 (ct 1)), (wJ g (rr 2) 1 8 (ct 2)), (wJ g (rr 3) 1 8 (ct 3)), (wJ g (rr 4) 1 8 (ct 4)), (wJ g (rr 5) 1 8 (ct 5)), (wJ g (rr 6) 1 8 (ct 6)), (wJ g (rr 7) 1 8 (ct 7)), (wI g pl 0 12 plf), (wO10 vs vs_part vsw), (wJ g vs_part 1 12 vsp)] sz)) 0 0 (va_A [(wO0 co n eq co_place), (wO2 n n_nodes n_kind n_pay n_name n_ways n_held n_targets n_weights), (wI g n_kind 0 12 n_fkind), (wI g n_pay 0 12 n_fpay), (wI g n_ways 0 12 n_fways), (wI g n_held 0 12 n_fheld), (wI g n_targets 0 36 n_ftargets), (wI g n_weights 0 36 n_fweights), (wI g co_place 0 12 pcf), (wO1 eq eq_rows eq_right ew), (wJ g eq_right 1 8 fr), (wR g eq_rows 5 8 (fun i => if i < 8 then some (rr i) else none)), (wJ g (rr 0) 1 8 (ct 0)), (wJ g (rr 1) 1 8 (ct 1)), (wJ g (rr 2) 1 8 (ct 2)), (wJ g (rr 3) 1 8 (ct 3)), (wJ g (rr 4) 1 8 (ct 4)), (wJ g (rr 5) 1 8 (ct 5)), (wJ g (rr 6) 1 8 (ct 6)), (wJ g (rr 7) 1 8 (ct 7)), (wI g pl 0 12 plf), (wO10 vs vs_part vsw), (wJ g vs_part 1 12 vsp)] sz) := by
  refine Met.ofW (cc := cX0_expectPay) (maxL := 8) (ret := none) (by decide) rfl ?_
  intro p e s m args below meth c s₁ B hml hv
  obtain ⟨ha, hsz, hP, hK, hD0⟩ := hv
  have hx := B.exec
  have hb := B.bytes
  have hr := B.returns
  have hts0 := atoms_spec (ws := (.code yX0_expectPay cX0_expectPay 8 none :: wsL_law)) B.pre
  have hts : ∀ w ∈ wsL_law, w.before args s = true := fun w h => hts0 w (List.mem_cons_of_mem _ h)
  have hown : s.vm.findClass RX0 = some m.cls := findClass_of_methodNamed B.named
  have hlocks := B.notSynchronized
  subst hsz
  have hD := hD0.self (sz := s.heap.size)
  generalize hAe : va_A [(wO0 co n eq co_place), (wO2 n n_nodes n_kind n_pay n_name n_ways n_held n_targets n_weights), (wI g n_kind 0 12 n_fkind), (wI g n_pay 0 12 n_fpay), (wI g n_ways 0 12 n_fways), (wI g n_held 0 12 n_fheld), (wI g n_targets 0 36 n_ftargets), (wI g n_weights 0 36 n_fweights), (wI g co_place 0 12 pcf), (wO1 eq eq_rows eq_right ew), (wJ g eq_right 1 8 fr), (wR g eq_rows 5 8 (fun i => if i < 8 then some (rr i) else none)), (wJ g (rr 0) 1 8 (ct 0)), (wJ g (rr 1) 1 8 (ct 1)), (wJ g (rr 2) 1 8 (ct 2)), (wJ g (rr 3) 1 8 (ct 3)), (wJ g (rr 4) 1 8 (ct 4)), (wJ g (rr 5) 1 8 (ct 5)), (wJ g (rr 6) 1 8 (ct 6)), (wJ g (rr 7) 1 8 (ct 7)), (wI g pl 0 12 plf), (wO10 vs vs_part vsw), (wJ g vs_part 1 12 vsp)] s.heap.size = A at hD ⊢
  have hA : ∀ q : Nat, s.heap.size ≤ q → A q := fun q h => by rw [← hAe]; exact Or.inr h
  have hS : va_S A s.heap s.heap [] := va_S.rf
  have hP : va_P D vwCl [(wO0 co n eq co_place), (wO2 n n_nodes n_kind n_pay n_name n_ways n_held n_targets n_weights), (wI g n_kind 0 12 n_fkind), (wI g n_pay 0 12 n_fpay), (wI g n_ways 0 12 n_fways), (wI g n_held 0 12 n_fheld), (wI g n_targets 0 36 n_ftargets), (wI g n_weights 0 36 n_fweights), (wI g co_place 0 12 pcf), (wO1 eq eq_rows eq_right ew), (wJ g eq_right 1 8 fr), (wR g eq_rows 5 8 (fun i => if i < 8 then some (rr i) else none)), (wJ g (rr 0) 1 8 (ct 0)), (wJ g (rr 1) 1 8 (ct 1)), (wJ g (rr 2) 1 8 (ct 2)), (wJ g (rr 3) 1 8 (ct 3)), (wJ g (rr 4) 1 8 (ct 4)), (wJ g (rr 5) 1 8 (ct 5)), (wJ g (rr 6) 1 8 (ct 6)), (wJ g (rr 7) 1 8 (ct 7)), (wI g pl 0 12 plf), (wO10 vs vs_part vsw), (wJ g vs_part 1 12 vsp)] s.heap := hP
  refine W.eq (g2 := entryFrame m ([.ref co, .ref pl, .int p0, .int p1, .int p2, .ref vs] : List Value).toArray 8) (by rw [ha]) ?_
  have hl := lv_entry ([.ref co, .ref pl, .int p0, .int p1, .int p2, .ref vs]) (n := 8) (Nat.le_of_ble_eq_true rfl)
  rw [lg_entry_eq]
  generalize (lg_sl ([.ref co, .ref pl, .int p0, .int p1, .int p2, .ref vs]) ++ List.replicate (8 - (lg_sl ([.ref co, .ref pl, .int p0, .int p1, .int p2, .ref vs])).length) Slot.unset).toArray = ls at hl ⊢
  have hl : lv_has ls 8 [(0, .ref co), (1, .ref pl), (2, .int p0), (3, .int p1), (4, .int p2), (5, .ref vs)] := hl
  refine lv_aload_n hx hb dX0_expectPay_0 rfl (lv_at hl 0 rfl) ?_
  refine lv_aload_n hx hb dX0_expectPay_1 rfl (lv_at hl 1 rfl) ?_
  refine lv_iload_n hx hb dX0_expectPay_2 rfl (lv_at hl 2 rfl) ?_
  refine lv_iload_n hx hb dX0_expectPay_3 rfl (lv_at hl 3 rfl) ?_
  refine lv_iload hx hb dX0_expectPay_4 (lv_at hl 4 rfl) ?_
  have hPc := hP.sub (ws' := [(wO0 co n eq co_place), (wO2 n n_nodes n_kind n_pay n_name n_ways n_held n_targets n_weights), (wI g n_kind 0 12 n_fkind), (wI g n_pay 0 12 n_fpay), (wI g n_ways 0 12 n_fways), (wI g n_held 0 12 n_fheld), (wI g n_targets 0 36 n_ftargets), (wI g n_weights 0 36 n_fweights), (wI g co_place 0 12 pcf), (wO1 eq eq_rows eq_right ew), (wJ g eq_right 1 8 fr), (wR g eq_rows 5 8 (fun i => if i < 8 then some (rr i) else none)), (wJ g (rr 0) 1 8 (ct 0)), (wJ g (rr 1) 1 8 (ct 1)), (wJ g (rr 2) 1 8 (ct 2)), (wJ g (rr 3) 1 8 (ct 3)), (wJ g (rr 4) 1 8 (ct 4)), (wJ g (rr 5) 1 8 (ct 5)), (wJ g (rr 6) 1 8 (ct 6)), (wJ g (rr 7) 1 8 (ct 7)), (wI g pl 0 12 plf)]) [0, 1, 2, 3, 4, 5, 6, 7, 8, 9, 10, 11, 12, 13, 14, 15, 16, 17, 18, 19, 20] rfl
  have hDc := hD.sub (ws' := [(wO0 co n eq co_place), (wO2 n n_nodes n_kind n_pay n_name n_ways n_held n_targets n_weights), (wI g n_kind 0 12 n_fkind), (wI g n_pay 0 12 n_fpay), (wI g n_ways 0 12 n_fways), (wI g n_held 0 12 n_fheld), (wI g n_targets 0 36 n_ftargets), (wI g n_weights 0 36 n_fweights), (wI g co_place 0 12 pcf), (wO1 eq eq_rows eq_right ew), (wJ g eq_right 1 8 fr), (wR g eq_rows 5 8 (fun i => if i < 8 then some (rr i) else none)), (wJ g (rr 0) 1 8 (ct 0)), (wJ g (rr 1) 1 8 (ct 1)), (wJ g (rr 2) 1 8 (ct 2)), (wJ g (rr 3) 1 8 (ct 3)), (wJ g (rr 4) 1 8 (ct 4)), (wJ g (rr 5) 1 8 (ct 5)), (wJ g (rr 6) 1 8 (ct 6)), (wJ g (rr 7) 1 8 (ct 7)), (wI g pl 0 12 plf)]) [0, 1, 2, 3, 4, 5, 6, 7, 8, 9, 10, 11, 12, 13, 14, 15, 16, 17, 18, 19, 20] (by decide) rfl
  have hFc := va_free (wc := [(wO0 co n eq co_place), (wO2 n n_nodes n_kind n_pay n_name n_ways n_held n_targets n_weights), (wI g n_kind 0 12 n_fkind), (wI g n_pay 0 12 n_fpay), (wI g n_ways 0 12 n_fways), (wI g n_held 0 12 n_fheld), (wI g n_targets 0 36 n_ftargets), (wI g n_weights 0 36 n_fweights), (wI g co_place 0 12 pcf), (wO1 eq eq_rows eq_right ew), (wJ g eq_right 1 8 fr), (wR g eq_rows 5 8 (fun i => if i < 8 then some (rr i) else none)), (wJ g (rr 0) 1 8 (ct 0)), (wJ g (rr 1) 1 8 (ct 1)), (wJ g (rr 2) 1 8 (ct 2)), (wJ g (rr 3) 1 8 (ct 3)), (wJ g (rr 4) 1 8 (ct 4)), (wJ g (rr 5) 1 8 (ct 5)), (wJ g (rr 6) 1 8 (ct 6)), (wJ g (rr 7) 1 8 (ct 7)), (wI g pl 0 12 plf)]) hD hS hA [0, 1, 2, 3, 4, 5, 6, 7, 8, 9, 10, 11, 12, 13, 14, 15, 16, 17, 18, 19, 20] rfl
  refine va_calli (va_runV (As := [.ref pl, .int p0, .int p1, .int p2]) (rest := []) ⟨hx, hb, hml, hown, hts⟩ (c_X0_lay l D g s.heap.size co pl p0 p1 p2 n eq co_place n_nodes n_kind n_pay n_name n_ways n_held n_targets n_weights n_fkind n_fpay n_fways n_fheld n_ftargets n_fweights pcf eq_rows eq_right ew fr rr ct plf (tr_w h_n_nodes (by decide) (by decide)) (tr_wa h_n_fkind (by decide) (by decide)) (tr_wa h_n_fways (by decide) (by decide)) (tr_wa h_n_fheld (by decide) (by decide)) (tr_wa h_n_ftargets (by decide) (by decide)) (tr_wa h_pcf (by decide) (by decide)) (tr_wa h_plf (by decide) (by decide))) (cwV 4 hts (tz_gV qw_536 qw_537 qw_538 qw_490 qw_539) rfl rfl rfl (by decide +kernel) ⟨Nat.le_of_ble_eq_true rfl, Nat.le_of_ble_eq_true rfl⟩) ⟨tz_blQ, va_recv hK hPc (ci := 0) (q0 := 0) rfl rfl, tz_preQ hPc hK hDc⟩ rfl rfl hl.1 rfl (lv_room (Nat.le_of_ble_eq_true rfl)) dX0_expectPay_6 ⟨Nat.le_of_ble_eq_true rfl, Nat.le_of_ble_eq_true rfl⟩) hS (fun q _ h => hFc q h) hFc (fun r_79304 u t H1 locs ht hvm hw hB hz1 hk1 hS => ?_)
  obtain ⟨opc_79305, ofr_79306, oct_79307, hf_79308, hP1, hD1⟩ := hB
  rw [ht] at hP1
  obtain ⟨hP, hD⟩ := va_join (wr := [(wO10 vs vs_part vsw), (wJ g vs_part 1 12 vsp)]) (w1 := [(wO0 co n eq co_place), (wO2 n n_nodes n_kind n_pay n_name n_ways n_held n_targets n_weights), (wI g n_kind 0 12 n_fkind), (wI g n_pay 0 12 n_fpay), (wI g n_ways 0 12 n_fways), (wI g n_held 0 12 n_fheld), (wI g n_targets 0 36 n_ftargets), (wI g n_weights 0 36 n_fweights), (wI g co_place 0 12 opc_79305), (wO1 eq eq_rows eq_right ew), (wJ g eq_right 1 8 ofr_79306), (wR g eq_rows 5 8 (fun i => if i < 8 then some (rr i) else none)), (wJ g (rr 0) 1 8 (oct_79307 0)), (wJ g (rr 1) 1 8 (oct_79307 1)), (wJ g (rr 2) 1 8 (oct_79307 2)), (wJ g (rr 3) 1 8 (oct_79307 3)), (wJ g (rr 4) 1 8 (oct_79307 4)), (wJ g (rr 5) 1 8 (oct_79307 5)), (wJ g (rr 6) 1 8 (oct_79307 6)), (wJ g (rr 7) 1 8 (oct_79307 7)), (wI g pl 0 12 plf)]) hP hD [0, 1, 2, 3, 4, 5, 6, 7, 8, 9, 10, 11, 12, 13, 14, 15, 16, 17, 18, 19, 20] [21, 22] rfl rfl (by decide) (by decide) hk1 hFc hP1 hD1
  generalize H1 = H at hP hS ⊢
  have hP : va_P D vwCl [(wO10 vs vs_part vsw), (wJ g vs_part 1 12 vsp), (wO0 co n eq co_place), (wO2 n n_nodes n_kind n_pay n_name n_ways n_held n_targets n_weights), (wI g n_kind 0 12 n_fkind), (wI g n_pay 0 12 n_fpay), (wI g n_ways 0 12 n_fways), (wI g n_held 0 12 n_fheld), (wI g n_targets 0 36 n_ftargets), (wI g n_weights 0 36 n_fweights), (wI g co_place 0 12 opc_79305), (wO1 eq eq_rows eq_right ew), (wJ g eq_right 1 8 ofr_79306), (wR g eq_rows 5 8 (fun i => if i < 8 then some (rr i) else none)), (wJ g (rr 0) 1 8 (oct_79307 0)), (wJ g (rr 1) 1 8 (oct_79307 1)), (wJ g (rr 2) 1 8 (oct_79307 2)), (wJ g (rr 3) 1 8 (oct_79307 3)), (wJ g (rr 4) 1 8 (oct_79307 4)), (wJ g (rr 5) 1 8 (oct_79307 5)), (wJ g (rr 6) 1 8 (oct_79307 6)), (wJ g (rr 7) 1 8 (oct_79307 7)), (wI g pl 0 12 plf)] H := hP
  have hD : va_D A [(wO10 vs vs_part vsw), (wJ g vs_part 1 12 vsp), (wO0 co n eq co_place), (wO2 n n_nodes n_kind n_pay n_name n_ways n_held n_targets n_weights), (wI g n_kind 0 12 n_fkind), (wI g n_pay 0 12 n_fpay), (wI g n_ways 0 12 n_fways), (wI g n_held 0 12 n_fheld), (wI g n_targets 0 36 n_ftargets), (wI g n_weights 0 36 n_fweights), (wI g co_place 0 12 opc_79305), (wO1 eq eq_rows eq_right ew), (wJ g eq_right 1 8 ofr_79306), (wR g eq_rows 5 8 (fun i => if i < 8 then some (rr i) else none)), (wJ g (rr 0) 1 8 (oct_79307 0)), (wJ g (rr 1) 1 8 (oct_79307 1)), (wJ g (rr 2) 1 8 (oct_79307 2)), (wJ g (rr 3) 1 8 (oct_79307 3)), (wJ g (rr 4) 1 8 (oct_79307 4)), (wJ g (rr 5) 1 8 (oct_79307 5)), (wJ g (rr 6) 1 8 (oct_79307 6)), (wJ g (rr 7) 1 8 (oct_79307 7)), (wI g pl 0 12 plf)] := hD
  have hw_79309 : 0 ≤ (r_79304 : Int32).toInt ∧ (r_79304 : Int32).toInt ≤ 8 := hw
  refine lv_istore (lv' := [(6, .int r_79304), (0, .ref co), (1, .ref pl), (2, .int p0), (3, .int p1), (4, .int p2), (5, .ref vs)]) hx hb dX0_expectPay_9 hl (by decide) rfl (fun ls hl => ?_)
  refine lv_iconst (v := 0) hx hb dX0_expectPay_11 (by decide) ?_
  refine lv_istore (lv' := [(7, .int 0), (6, .int r_79304), (0, .ref co), (1, .ref pl), (2, .int p0), (3, .int p1), (4, .int p2), (5, .ref vs)]) hx hb dX0_expectPay_12 hl (by decide) rfl (fun ls hl => ?_)
  have lp_80080 : ∀ (n_80080 : Nat) (x_80078 : Int32) (f_80079 : Nat → Int64) (H : Heap) (locs : List Loc) (ls : Array Slot), (0 ≤ (x_80078 : Int32).toInt ∧ (x_80078 : Int32).toInt ≤ 12) → (12 - x_80078.toInt < (n_80080 : Int)) → va_P D vwCl [(wO10 vs vs_part vsw), (wJ g vs_part 1 12 vsp), (wO0 co n eq co_place), (wO2 n n_nodes n_kind n_pay n_name n_ways n_held n_targets n_weights), (wI g n_kind 0 12 n_fkind), (wI g n_pay 0 12 n_fpay), (wI g n_ways 0 12 n_fways), (wI g n_held 0 12 n_fheld), (wI g n_targets 0 36 n_ftargets), (wI g n_weights 0 36 n_fweights), (wI g co_place 0 12 opc_79305), (wO1 eq eq_rows eq_right ew), (wJ g eq_right 1 8 f_80079), (wR g eq_rows 5 8 (fun i => if i < 8 then some (rr i) else none)), (wJ g (rr 0) 1 8 (oct_79307 0)), (wJ g (rr 1) 1 8 (oct_79307 1)), (wJ g (rr 2) 1 8 (oct_79307 2)), (wJ g (rr 3) 1 8 (oct_79307 3)), (wJ g (rr 4) 1 8 (oct_79307 4)), (wJ g (rr 5) 1 8 (oct_79307 5)), (wJ g (rr 6) 1 8 (oct_79307 6)), (wJ g (rr 7) 1 8 (oct_79307 7)), (wI g pl 0 12 plf)] H → va_D A [(wO10 vs vs_part vsw), (wJ g vs_part 1 12 vsp), (wO0 co n eq co_place), (wO2 n n_nodes n_kind n_pay n_name n_ways n_held n_targets n_weights), (wI g n_kind 0 12 n_fkind), (wI g n_pay 0 12 n_fpay), (wI g n_ways 0 12 n_fways), (wI g n_held 0 12 n_fheld), (wI g n_targets 0 36 n_ftargets), (wI g n_weights 0 36 n_fweights), (wI g co_place 0 12 opc_79305), (wO1 eq eq_rows eq_right ew), (wJ g eq_right 1 8 f_80079), (wR g eq_rows 5 8 (fun i => if i < 8 then some (rr i) else none)), (wJ g (rr 0) 1 8 (oct_79307 0)), (wJ g (rr 1) 1 8 (oct_79307 1)), (wJ g (rr 2) 1 8 (oct_79307 2)), (wJ g (rr 3) 1 8 (oct_79307 3)), (wJ g (rr 4) 1 8 (oct_79307 4)), (wJ g (rr 5) 1 8 (oct_79307 5)), (wJ g (rr 6) 1 8 (oct_79307 6)), (wJ g (rr 7) 1 8 (oct_79307 7)), (wI g pl 0 12 plf)] → va_S A s.heap H locs → lv_has ls 8 [(7, .int x_80078), (6, .int r_79304), (0, .ref co), (1, .ref pl), (2, .int p0), (3, .int p1), (4, .int p2), (5, .ref vs)] → W p l e (headSpec (.code yX0_expectPay cX0_expectPay 8 none :: wsL_law) ({ frames := 3, cells := 0, slots := 0, locals := 78 })).room s m args below meth c H locs 0 0 (MQ below (va_Qv (fun (_ : Unit) => True) (fun _ t => ∃ opc : Nat → Int32, ∃ oew : Int64, ∃ ofr : Nat → Int64, ∃ ovw : Int64, ∃ ovp : Nat → Int64, ∃ oct : Nat → Nat → Int64, (∀ j : Nat, (-1) ≤ (opc j).toInt ∧ (opc j).toInt ≤ 7) ∧ va_P D vwCl [(wO0 co n eq co_place), (wO2 n n_nodes n_kind n_pay n_name n_ways n_held n_targets n_weights), (wI g n_kind 0 12 n_fkind), (wI g n_pay 0 12 n_fpay), (wI g n_ways 0 12 n_fways), (wI g n_held 0 12 n_fheld), (wI g n_targets 0 36 n_ftargets), (wI g n_weights 0 36 n_fweights), (wI g co_place 0 12 opc), (wO1 eq eq_rows eq_right oew), (wJ g eq_right 1 8 ofr), (wR g eq_rows 5 8 (fun i => if i < 8 then some (rr i) else none)), (wJ g (rr 0) 1 8 (oct 0)), (wJ g (rr 1) 1 8 (oct 1)), (wJ g (rr 2) 1 8 (oct 2)), (wJ g (rr 3) 1 8 (oct 3)), (wJ g (rr 4) 1 8 (oct 4)), (wJ g (rr 5) 1 8 (oct 5)), (wJ g (rr 6) 1 8 (oct 6)), (wJ g (rr 7) 1 8 (oct 7)), (wI g pl 0 12 plf), (wO10 vs vs_part ovw), (wJ g vs_part 1 12 ovp)] t.heap ∧ va_D A [(wO0 co n eq co_place), (wO2 n n_nodes n_kind n_pay n_name n_ways n_held n_targets n_weights), (wI g n_kind 0 12 n_fkind), (wI g n_pay 0 12 n_fpay), (wI g n_ways 0 12 n_fways), (wI g n_held 0 12 n_fheld), (wI g n_targets 0 36 n_ftargets), (wI g n_weights 0 36 n_fweights), (wI g co_place 0 12 opc), (wO1 eq eq_rows eq_right oew), (wJ g eq_right 1 8 ofr), (wR g eq_rows 5 8 (fun i => if i < 8 then some (rr i) else none)), (wJ g (rr 0) 1 8 (oct 0)), (wJ g (rr 1) 1 8 (oct 1)), (wJ g (rr 2) 1 8 (oct 2)), (wJ g (rr 3) 1 8 (oct 3)), (wJ g (rr 4) 1 8 (oct 4)), (wJ g (rr 5) 1 8 (oct 5)), (wJ g (rr 6) 1 8 (oct 6)), (wJ g (rr 7) 1 8 (oct 7)), (wI g pl 0 12 plf), (wO10 vs vs_part ovw), (wJ g vs_part 1 12 ovp)]) A) args s 0 0 A) (F0 m 14 ls []) := by
    intro n_80080
    induction n_80080 with
    | zero =>
      intro x_80078 f_80079 H locs ls h_x_80078 hm_80080 hP hD hS hl
      exfalso; omega
    | succ n_80080 ih_80080 =>
      intro x_80078 f_80079 H locs ls h_x_80078 hm_80080 hP hD hS hl
      refine lv_iload hx hb dX0_expectPay_14 (lv_at hl 0 rfl) ?_
      refine lv_aload_n hx hb dX0_expectPay_16 rfl (lv_at hl 2 rfl) ?_
      refine va_get (D := D) (ci := 0) (v := .ref n) (C := RX0) (T := TX0) (N := 3) hx hb hts inlX0 hown hK hP 2 rfl rfl 0 (by decide) (hts (Cond.fieldLink RX0 22 "ChanceRings$Course" "net" "LChanceRings$Net;") qw_483) (fun _ h9 => h9) rfl dX0_expectPay_17 ?_
      refine va_get (D := D) (ci := 2) (v := .int n_nodes) (C := RX2) (T := TX2) (N := 8) hx hb hts inlX2 hown hK hP 3 rfl rfl 0 (by decide) (hts (Cond.fieldLink RX0 49 "ChanceRings$Net" "nodes" "I") qw_493) (fun _ h9 => h9) rfl dX0_expectPay_20 ?_
      refine lv_icmp_ge (tgt := 68) hx hb dX0_expectPay_23 (by decide) (fun c_80081 => ?_) (fun c_80081 => ?_)
      · skip
        refine lv_aload_n hx hb dX0_expectPay_68 rfl (lv_at hl 2 rfl) ?_
        refine lv_iload hx hb dX0_expectPay_69 (lv_at hl 1 rfl) ?_
        refine lv_aload hx hb dX0_expectPay_71 (lv_at hl 7 rfl) ?_
        have hPc := hP.sub (ws' := [(wO0 co n eq co_place), (wO2 n n_nodes n_kind n_pay n_name n_ways n_held n_targets n_weights), (wI g n_kind 0 12 n_fkind), (wI g n_pay 0 12 n_fpay), (wI g n_ways 0 12 n_fways), (wI g n_held 0 12 n_fheld), (wI g n_targets 0 36 n_ftargets), (wI g n_weights 0 36 n_fweights), (wI g co_place 0 12 opc_79305), (wO1 eq eq_rows eq_right ew), (wJ g eq_right 1 8 f_80079), (wR g eq_rows 5 8 (fun i => if i < 8 then some (rr i) else none)), (wJ g (rr 0) 1 8 (oct_79307 0)), (wJ g (rr 1) 1 8 (oct_79307 1)), (wJ g (rr 2) 1 8 (oct_79307 2)), (wJ g (rr 3) 1 8 (oct_79307 3)), (wJ g (rr 4) 1 8 (oct_79307 4)), (wJ g (rr 5) 1 8 (oct_79307 5)), (wJ g (rr 6) 1 8 (oct_79307 6)), (wJ g (rr 7) 1 8 (oct_79307 7)), (wO10 vs vs_part vsw), (wJ g vs_part 1 12 vsp)]) [2, 3, 4, 5, 6, 7, 8, 9, 10, 11, 12, 13, 14, 15, 16, 17, 18, 19, 20, 21, 0, 1] rfl
        have hDc := hD.sub (ws' := [(wO0 co n eq co_place), (wO2 n n_nodes n_kind n_pay n_name n_ways n_held n_targets n_weights), (wI g n_kind 0 12 n_fkind), (wI g n_pay 0 12 n_fpay), (wI g n_ways 0 12 n_fways), (wI g n_held 0 12 n_fheld), (wI g n_targets 0 36 n_ftargets), (wI g n_weights 0 36 n_fweights), (wI g co_place 0 12 opc_79305), (wO1 eq eq_rows eq_right ew), (wJ g eq_right 1 8 f_80079), (wR g eq_rows 5 8 (fun i => if i < 8 then some (rr i) else none)), (wJ g (rr 0) 1 8 (oct_79307 0)), (wJ g (rr 1) 1 8 (oct_79307 1)), (wJ g (rr 2) 1 8 (oct_79307 2)), (wJ g (rr 3) 1 8 (oct_79307 3)), (wJ g (rr 4) 1 8 (oct_79307 4)), (wJ g (rr 5) 1 8 (oct_79307 5)), (wJ g (rr 6) 1 8 (oct_79307 6)), (wJ g (rr 7) 1 8 (oct_79307 7)), (wO10 vs vs_part vsw), (wJ g vs_part 1 12 vsp)]) [2, 3, 4, 5, 6, 7, 8, 9, 10, 11, 12, 13, 14, 15, 16, 17, 18, 19, 20, 21, 0, 1] (by decide) rfl
        have hFc := va_free (wc := [(wO0 co n eq co_place), (wO2 n n_nodes n_kind n_pay n_name n_ways n_held n_targets n_weights), (wI g n_kind 0 12 n_fkind), (wI g n_pay 0 12 n_fpay), (wI g n_ways 0 12 n_fways), (wI g n_held 0 12 n_fheld), (wI g n_targets 0 36 n_ftargets), (wI g n_weights 0 36 n_fweights), (wI g co_place 0 12 opc_79305), (wO1 eq eq_rows eq_right ew), (wJ g eq_right 1 8 f_80079), (wR g eq_rows 5 8 (fun i => if i < 8 then some (rr i) else none)), (wJ g (rr 0) 1 8 (oct_79307 0)), (wJ g (rr 1) 1 8 (oct_79307 1)), (wJ g (rr 2) 1 8 (oct_79307 2)), (wJ g (rr 3) 1 8 (oct_79307 3)), (wJ g (rr 4) 1 8 (oct_79307 4)), (wJ g (rr 5) 1 8 (oct_79307 5)), (wJ g (rr 6) 1 8 (oct_79307 6)), (wJ g (rr 7) 1 8 (oct_79307 7)), (wO10 vs vs_part vsw), (wJ g vs_part 1 12 vsp)]) hD hS hA [2, 3, 4, 5, 6, 7, 8, 9, 10, 11, 12, 13, 14, 15, 16, 17, 18, 19, 20, 21, 0, 1] rfl
        refine va_callv (va_runV (As := [.int r_79304, .ref vs]) (rest := []) ⟨hx, hb, hml, hown, hts⟩ (c_X0_finish l D g H.size co r_79304 vs n eq co_place n_nodes n_kind n_pay n_name n_ways n_held n_targets n_weights n_fkind n_fpay n_fways n_fheld n_ftargets n_fweights opc_79305 eq_rows eq_right ew f_80079 rr oct_79307 vs_part vsw vsp (tr_w hw_79309 (by decide) (by decide)) (tr_w h_n_nodes (by decide) (by decide)) (tr_wa h_n_fkind (by decide) (by decide)) (tr_wa h_n_fways (by decide) (by decide)) (tr_wa h_n_fheld (by decide) (by decide)) (tr_wa h_n_ftargets (by decide) (by decide)) (tr_wa hf_79308 (by decide) (by decide))) (cwV 2 hts (tz_gV qw_540 qw_541 qw_542 qw_490 qw_543) rfl rfl rfl (by decide +kernel) ⟨Nat.le_of_ble_eq_true rfl, Nat.le_of_ble_eq_true rfl⟩) ⟨tz_blQ, va_recv hK hPc (ci := 0) (q0 := 0) rfl rfl, tz_preQ hPc hK hDc⟩ rfl rfl hl.1 rfl (lv_room (Nat.le_of_ble_eq_true rfl)) dX0_expectPay_73 ⟨Nat.le_of_ble_eq_true rfl, Nat.le_of_ble_eq_true rfl⟩) hS (fun q _ h => hFc q h) hFc (fun u t H1 locs ht hvm hw hB hz1 hk1 hS => ?_)
        obtain ⟨oew_80085, ofr_80086, ovw_80087, ovp_80088, oct_80089, hP1, hD1⟩ := hB
        rw [ht] at hP1
        obtain ⟨hP, hD⟩ := va_join (wr := [(wI g pl 0 12 plf)]) (w1 := [(wO0 co n eq co_place), (wO2 n n_nodes n_kind n_pay n_name n_ways n_held n_targets n_weights), (wI g n_kind 0 12 n_fkind), (wI g n_pay 0 12 n_fpay), (wI g n_ways 0 12 n_fways), (wI g n_held 0 12 n_fheld), (wI g n_targets 0 36 n_ftargets), (wI g n_weights 0 36 n_fweights), (wI g co_place 0 12 opc_79305), (wO1 eq eq_rows eq_right oew_80085), (wJ g eq_right 1 8 ofr_80086), (wR g eq_rows 5 8 (fun i => if i < 8 then some (rr i) else none)), (wJ g (rr 0) 1 8 (oct_80089 0)), (wJ g (rr 1) 1 8 (oct_80089 1)), (wJ g (rr 2) 1 8 (oct_80089 2)), (wJ g (rr 3) 1 8 (oct_80089 3)), (wJ g (rr 4) 1 8 (oct_80089 4)), (wJ g (rr 5) 1 8 (oct_80089 5)), (wJ g (rr 6) 1 8 (oct_80089 6)), (wJ g (rr 7) 1 8 (oct_80089 7)), (wO10 vs vs_part ovw_80087), (wJ g vs_part 1 12 ovp_80088)]) hP hD [2, 3, 4, 5, 6, 7, 8, 9, 10, 11, 12, 13, 14, 15, 16, 17, 18, 19, 20, 21, 0, 1] [22] rfl rfl (by decide) (by decide) hk1 hFc hP1 hD1
        generalize H1 = H at hP hS ⊢
        have hP : va_P D vwCl [(wI g pl 0 12 plf), (wO0 co n eq co_place), (wO2 n n_nodes n_kind n_pay n_name n_ways n_held n_targets n_weights), (wI g n_kind 0 12 n_fkind), (wI g n_pay 0 12 n_fpay), (wI g n_ways 0 12 n_fways), (wI g n_held 0 12 n_fheld), (wI g n_targets 0 36 n_ftargets), (wI g n_weights 0 36 n_fweights), (wI g co_place 0 12 opc_79305), (wO1 eq eq_rows eq_right oew_80085), (wJ g eq_right 1 8 ofr_80086), (wR g eq_rows 5 8 (fun i => if i < 8 then some (rr i) else none)), (wJ g (rr 0) 1 8 (oct_80089 0)), (wJ g (rr 1) 1 8 (oct_80089 1)), (wJ g (rr 2) 1 8 (oct_80089 2)), (wJ g (rr 3) 1 8 (oct_80089 3)), (wJ g (rr 4) 1 8 (oct_80089 4)), (wJ g (rr 5) 1 8 (oct_80089 5)), (wJ g (rr 6) 1 8 (oct_80089 6)), (wJ g (rr 7) 1 8 (oct_80089 7)), (wO10 vs vs_part ovw_80087), (wJ g vs_part 1 12 ovp_80088)] H := hP
        have hD : va_D A [(wI g pl 0 12 plf), (wO0 co n eq co_place), (wO2 n n_nodes n_kind n_pay n_name n_ways n_held n_targets n_weights), (wI g n_kind 0 12 n_fkind), (wI g n_pay 0 12 n_fpay), (wI g n_ways 0 12 n_fways), (wI g n_held 0 12 n_fheld), (wI g n_targets 0 36 n_ftargets), (wI g n_weights 0 36 n_fweights), (wI g co_place 0 12 opc_79305), (wO1 eq eq_rows eq_right oew_80085), (wJ g eq_right 1 8 ofr_80086), (wR g eq_rows 5 8 (fun i => if i < 8 then some (rr i) else none)), (wJ g (rr 0) 1 8 (oct_80089 0)), (wJ g (rr 1) 1 8 (oct_80089 1)), (wJ g (rr 2) 1 8 (oct_80089 2)), (wJ g (rr 3) 1 8 (oct_80089 3)), (wJ g (rr 4) 1 8 (oct_80089 4)), (wJ g (rr 5) 1 8 (oct_80089 5)), (wJ g (rr 6) 1 8 (oct_80089 6)), (wJ g (rr 7) 1 8 (oct_80089 7)), (wO10 vs vs_part ovw_80087), (wJ g vs_part 1 12 ovp_80088)] := hD
        refine lv_iconst (v := 0) hx hb dX0_expectPay_76 (by decide) ?_
        refine lv_istore (lv' := [(7, .int 0), (6, .int r_79304), (0, .ref co), (1, .ref pl), (2, .int p0), (3, .int p1), (4, .int p2), (5, .ref vs)]) hx hb dX0_expectPay_77 hl (by decide) rfl (fun ls hl => ?_)
        have lp_80208 : ∀ (n_80208 : Nat) (x_80206 : Int32) (f_80207 : Nat → Int64) (H : Heap) (locs : List Loc) (ls : Array Slot), (0 ≤ (x_80206 : Int32).toInt ∧ (x_80206 : Int32).toInt ≤ 12) → (12 - x_80206.toInt < (n_80208 : Int)) → va_P D vwCl [(wI g pl 0 12 plf), (wO0 co n eq co_place), (wO2 n n_nodes n_kind n_pay n_name n_ways n_held n_targets n_weights), (wI g n_kind 0 12 n_fkind), (wI g n_pay 0 12 n_fpay), (wI g n_ways 0 12 n_fways), (wI g n_held 0 12 n_fheld), (wI g n_targets 0 36 n_ftargets), (wI g n_weights 0 36 n_fweights), (wI g co_place 0 12 opc_79305), (wO1 eq eq_rows eq_right oew_80085), (wJ g eq_right 1 8 ofr_80086), (wR g eq_rows 5 8 (fun i => if i < 8 then some (rr i) else none)), (wJ g (rr 0) 1 8 (oct_80089 0)), (wJ g (rr 1) 1 8 (oct_80089 1)), (wJ g (rr 2) 1 8 (oct_80089 2)), (wJ g (rr 3) 1 8 (oct_80089 3)), (wJ g (rr 4) 1 8 (oct_80089 4)), (wJ g (rr 5) 1 8 (oct_80089 5)), (wJ g (rr 6) 1 8 (oct_80089 6)), (wJ g (rr 7) 1 8 (oct_80089 7)), (wO10 vs vs_part ovw_80087), (wJ g vs_part 1 12 f_80207)] H → va_D A [(wI g pl 0 12 plf), (wO0 co n eq co_place), (wO2 n n_nodes n_kind n_pay n_name n_ways n_held n_targets n_weights), (wI g n_kind 0 12 n_fkind), (wI g n_pay 0 12 n_fpay), (wI g n_ways 0 12 n_fways), (wI g n_held 0 12 n_fheld), (wI g n_targets 0 36 n_ftargets), (wI g n_weights 0 36 n_fweights), (wI g co_place 0 12 opc_79305), (wO1 eq eq_rows eq_right oew_80085), (wJ g eq_right 1 8 ofr_80086), (wR g eq_rows 5 8 (fun i => if i < 8 then some (rr i) else none)), (wJ g (rr 0) 1 8 (oct_80089 0)), (wJ g (rr 1) 1 8 (oct_80089 1)), (wJ g (rr 2) 1 8 (oct_80089 2)), (wJ g (rr 3) 1 8 (oct_80089 3)), (wJ g (rr 4) 1 8 (oct_80089 4)), (wJ g (rr 5) 1 8 (oct_80089 5)), (wJ g (rr 6) 1 8 (oct_80089 6)), (wJ g (rr 7) 1 8 (oct_80089 7)), (wO10 vs vs_part ovw_80087), (wJ g vs_part 1 12 f_80207)] → va_S A s.heap H locs → lv_has ls 8 [(7, .int x_80206), (6, .int r_79304), (0, .ref co), (1, .ref pl), (2, .int p0), (3, .int p1), (4, .int p2), (5, .ref vs)] → W p l e (headSpec (.code yX0_expectPay cX0_expectPay 8 none :: wsL_law) ({ frames := 3, cells := 0, slots := 0, locals := 78 })).room s m args below meth c H locs 0 0 (MQ below (va_Qv (fun (_ : Unit) => True) (fun _ t => ∃ opc : Nat → Int32, ∃ oew : Int64, ∃ ofr : Nat → Int64, ∃ ovw : Int64, ∃ ovp : Nat → Int64, ∃ oct : Nat → Nat → Int64, (∀ j : Nat, (-1) ≤ (opc j).toInt ∧ (opc j).toInt ≤ 7) ∧ va_P D vwCl [(wO0 co n eq co_place), (wO2 n n_nodes n_kind n_pay n_name n_ways n_held n_targets n_weights), (wI g n_kind 0 12 n_fkind), (wI g n_pay 0 12 n_fpay), (wI g n_ways 0 12 n_fways), (wI g n_held 0 12 n_fheld), (wI g n_targets 0 36 n_ftargets), (wI g n_weights 0 36 n_fweights), (wI g co_place 0 12 opc), (wO1 eq eq_rows eq_right oew), (wJ g eq_right 1 8 ofr), (wR g eq_rows 5 8 (fun i => if i < 8 then some (rr i) else none)), (wJ g (rr 0) 1 8 (oct 0)), (wJ g (rr 1) 1 8 (oct 1)), (wJ g (rr 2) 1 8 (oct 2)), (wJ g (rr 3) 1 8 (oct 3)), (wJ g (rr 4) 1 8 (oct 4)), (wJ g (rr 5) 1 8 (oct 5)), (wJ g (rr 6) 1 8 (oct 6)), (wJ g (rr 7) 1 8 (oct 7)), (wI g pl 0 12 plf), (wO10 vs vs_part ovw), (wJ g vs_part 1 12 ovp)] t.heap ∧ va_D A [(wO0 co n eq co_place), (wO2 n n_nodes n_kind n_pay n_name n_ways n_held n_targets n_weights), (wI g n_kind 0 12 n_fkind), (wI g n_pay 0 12 n_fpay), (wI g n_ways 0 12 n_fways), (wI g n_held 0 12 n_fheld), (wI g n_targets 0 36 n_ftargets), (wI g n_weights 0 36 n_fweights), (wI g co_place 0 12 opc), (wO1 eq eq_rows eq_right oew), (wJ g eq_right 1 8 ofr), (wR g eq_rows 5 8 (fun i => if i < 8 then some (rr i) else none)), (wJ g (rr 0) 1 8 (oct 0)), (wJ g (rr 1) 1 8 (oct 1)), (wJ g (rr 2) 1 8 (oct 2)), (wJ g (rr 3) 1 8 (oct 3)), (wJ g (rr 4) 1 8 (oct 4)), (wJ g (rr 5) 1 8 (oct 5)), (wJ g (rr 6) 1 8 (oct 6)), (wJ g (rr 7) 1 8 (oct 7)), (wI g pl 0 12 plf), (wO10 vs vs_part ovw), (wJ g vs_part 1 12 ovp)]) A) args s 0 0 A) (F0 m 79 ls []) := by
          intro n_80208
          induction n_80208 with
          | zero =>
            intro x_80206 f_80207 H locs ls h_x_80206 hm_80208 hP hD hS hl
            exfalso; omega
          | succ n_80208 ih_80208 =>
            intro x_80206 f_80207 H locs ls h_x_80206 hm_80208 hP hD hS hl
            refine lv_iload hx hb dX0_expectPay_79 (lv_at hl 0 rfl) ?_
            refine lv_aload_n hx hb dX0_expectPay_81 rfl (lv_at hl 2 rfl) ?_
            refine va_get (D := D) (ci := 0) (v := .ref n) (C := RX0) (T := TX0) (N := 3) hx hb hts inlX0 hown hK hP 1 rfl rfl 0 (by decide) (hts (Cond.fieldLink RX0 22 "ChanceRings$Course" "net" "LChanceRings$Net;") qw_483) (fun _ h9 => h9) rfl dX0_expectPay_82 ?_
            refine va_get (D := D) (ci := 2) (v := .int n_nodes) (C := RX2) (T := TX2) (N := 8) hx hb hts inlX2 hown hK hP 2 rfl rfl 0 (by decide) (hts (Cond.fieldLink RX0 49 "ChanceRings$Net" "nodes" "I") qw_493) (fun _ h9 => h9) rfl dX0_expectPay_85 ?_
            refine lv_icmp_ge (tgt := 135) hx hb dX0_expectPay_88 (by decide) (fun c_80209 => ?_) (fun c_80209 => ?_)
            · skip
              have hP9 := hP.sub (ws' := [(wO0 co n eq co_place), (wO2 n n_nodes n_kind n_pay n_name n_ways n_held n_targets n_weights), (wI g n_kind 0 12 n_fkind), (wI g n_pay 0 12 n_fpay), (wI g n_ways 0 12 n_fways), (wI g n_held 0 12 n_fheld), (wI g n_targets 0 36 n_ftargets), (wI g n_weights 0 36 n_fweights), (wI g co_place 0 12 opc_79305), (wO1 eq eq_rows eq_right oew_80085), (wJ g eq_right 1 8 ofr_80086), (wR g eq_rows 5 8 (fun i => if i < 8 then some (rr i) else none)), (wJ g (rr 0) 1 8 (oct_80089 0)), (wJ g (rr 1) 1 8 (oct_80089 1)), (wJ g (rr 2) 1 8 (oct_80089 2)), (wJ g (rr 3) 1 8 (oct_80089 3)), (wJ g (rr 4) 1 8 (oct_80089 4)), (wJ g (rr 5) 1 8 (oct_80089 5)), (wJ g (rr 6) 1 8 (oct_80089 6)), (wJ g (rr 7) 1 8 (oct_80089 7)), (wI g pl 0 12 plf), (wO10 vs vs_part ovw_80087), (wJ g vs_part 1 12 f_80207)]) [1, 2, 3, 4, 5, 6, 7, 8, 9, 10, 11, 12, 13, 14, 15, 16, 17, 18, 19, 20, 0, 21, 22] rfl
              have hD9 := hD.sub (ws' := [(wO0 co n eq co_place), (wO2 n n_nodes n_kind n_pay n_name n_ways n_held n_targets n_weights), (wI g n_kind 0 12 n_fkind), (wI g n_pay 0 12 n_fpay), (wI g n_ways 0 12 n_fways), (wI g n_held 0 12 n_fheld), (wI g n_targets 0 36 n_ftargets), (wI g n_weights 0 36 n_fweights), (wI g co_place 0 12 opc_79305), (wO1 eq eq_rows eq_right oew_80085), (wJ g eq_right 1 8 ofr_80086), (wR g eq_rows 5 8 (fun i => if i < 8 then some (rr i) else none)), (wJ g (rr 0) 1 8 (oct_80089 0)), (wJ g (rr 1) 1 8 (oct_80089 1)), (wJ g (rr 2) 1 8 (oct_80089 2)), (wJ g (rr 3) 1 8 (oct_80089 3)), (wJ g (rr 4) 1 8 (oct_80089 4)), (wJ g (rr 5) 1 8 (oct_80089 5)), (wJ g (rr 6) 1 8 (oct_80089 6)), (wJ g (rr 7) 1 8 (oct_80089 7)), (wI g pl 0 12 plf), (wO10 vs vs_part ovw_80087), (wJ g vs_part 1 12 f_80207)]) [1, 2, 3, 4, 5, 6, 7, 8, 9, 10, 11, 12, 13, 14, 15, 16, 17, 18, 19, 20, 0, 21, 22] (by decide) rfl
              exact W.vret hx hb hr (fun t ht hW => ⟨⟨(), rfl, trivial, opc_79305, oew_80085, ofr_80086, ovw_80087, f_80207, oct_80089, (tr_wa hf_79308 (by decide) (by decide)), by rw [ht]; exact hP9, hD9⟩, hS.F ht⟩) hS.2.2 dX0_expectPay_135
            · skip
              have c_80209_i := Int32.lt_iff_toInt_lt.mp (Int32.not_le.mp c_80209)
              have h_80210 : 0 ≤ (x_80206 : Int32).toInt ∧ (x_80206 : Int32).toInt ≤ 11 := nr_lt_l h_x_80206 h_n_nodes c_80209_i (by decide) (by decide)
              have h_80211 : 1 ≤ (n_nodes : Int32).toInt ∧ (n_nodes : Int32).toInt ≤ 12 := nr_lt_r h_x_80206 h_n_nodes c_80209_i (by decide) (by decide)
              refine lv_aload_n hx hb dX0_expectPay_91 rfl (lv_at hl 2 rfl) ?_
              refine va_get (D := D) (ci := 0) (v := .ref n) (C := RX0) (T := TX0) (N := 3) hx hb hts inlX0 hown hK hP 1 rfl rfl 0 (by decide) (hts (Cond.fieldLink RX0 22 "ChanceRings$Course" "net" "LChanceRings$Net;") qw_483) (fun _ h9 => h9) rfl dX0_expectPay_92 ?_
              refine va_get (D := D) (ci := 2) (v := .ref n_kind) (C := RX2) (T := TX2) (N := 8) hx hb hts inlX2 hown hK hP 2 rfl rfl 1 (by decide) (hts (Cond.fieldLink RX0 26 "ChanceRings$Net" "kind" "[I") qw_484) (fun _ h9 => h9) rfl dX0_expectPay_95 ?_
              refine lv_iload hx hb dX0_expectPay_98 (lv_at hl 0 rfl) ?_
              refine va_iald hx hb hK hP 3 0 rfl rfl (tr_in h_80210 (by decide) (by decide)) dX0_expectPay_100 ?_
              refine lv_topi (fun v_80212 v_80212_e => ?_)
              have h_v_80212 : 0 ≤ (v_80212 : Int32).toInt ∧ (v_80212 : Int32).toInt ≤ 3 := by rw [v_80212_e]; exact h_n_fkind _
              refine lv_if_ne (tgt := 129) hx hb dX0_expectPay_101 (by decide) (fun c_80213 => ?_) (fun c_80213 => ?_)
              · skip
                have c_80213_i : ¬ (v_80212 : Int32).toInt = (0 : Int32).toInt := (fun q => c_80213 (Int32.toInt_inj.mp q))
                have h_80214 : 1 ≤ (v_80212 : Int32).toInt ∧ (v_80212 : Int32).toInt ≤ 3 := nr_ne_l h_v_80212 (⟨by decide, by decide⟩ : 0 ≤ (0 : Int32).toInt ∧ (0 : Int32).toInt ≤ 0) c_80213_i (by decide) (by decide)
                obtain ⟨v_80216, v_80216_e⟩ : ∃ y : Int32, y = x_80206 + Int32.ofInt 1 := ⟨_, rfl⟩
                have h_v_80216 : 1 ≤ (v_80216 : Int32).toInt ∧ (v_80216 : Int32).toInt ≤ 12 := by rw [v_80216_e]; exact tr_add h_80210 (⟨by decide, by decide⟩ : 1 ≤ (Int32.ofInt 1 : Int32).toInt ∧ (Int32.ofInt 1 : Int32).toInt ≤ 1) (by decide) (by decide) (by decide) (by decide)
                have q_v_80216 : v_80216.toInt = x_80206.toInt + 1 := by rw [v_80216_e]; exact tr_addE h_80210 (⟨by decide, by decide⟩ : 1 ≤ (Int32.ofInt 1 : Int32).toInt ∧ (Int32.ofInt 1 : Int32).toInt ≤ 1) (by decide) (by decide)
                refine lv_iinc (v := v_80216) (lv' := [(7, .int v_80216), (6, .int r_79304), (0, .ref co), (1, .ref pl), (2, .int p0), (3, .int p1), (4, .int p2), (5, .ref vs)]) hx hb dX0_expectPay_129 hl (k := 0) rfl v_80216_e.symm (by decide) rfl (fun ls hl => ?_)
                refine lv_goto (tgt := 79) hx hb dX0_expectPay_132 (by decide) ?_
                exact ih_80208 v_80216 f_80207 H _ ls (tr_w h_v_80216 (by decide) (by decide)) (by (first | (clear hw_79309 h_x_80078 h_v_80212 c_80213_i h_80214; omega) | omega)) (hP.sub [0, 1, 2, 3, 4, 5, 6, 7, 8, 9, 10, 11, 12, 13, 14, 15, 16, 17, 18, 19, 20, 21, 22] rfl) (hD.sub [0, 1, 2, 3, 4, 5, 6, 7, 8, 9, 10, 11, 12, 13, 14, 15, 16, 17, 18, 19, 20, 21, 22] (by decide) rfl) hS (lv_sub hl [0, 1, 2, 3, 4, 5, 6, 7] rfl)
              · skip
                have c_80213_i : (v_80212 : Int32).toInt = (0 : Int32).toInt := congrArg Int32.toInt c_80213
                have h_80215 : 0 ≤ (v_80212 : Int32).toInt ∧ (v_80212 : Int32).toInt ≤ 0 := nr_eq_l h_v_80212 (⟨by decide, by decide⟩ : 0 ≤ (0 : Int32).toInt ∧ (0 : Int32).toInt ≤ 0) c_80213_i (by decide) (by decide)
                refine lv_aload hx hb dX0_expectPay_104 (lv_at hl 7 rfl) ?_
                refine va_get (D := D) (ci := 10) (v := .ref vs_part) (C := RX10) (T := TX10) (N := 2) hx hb hts inlX10 hown hK hP 21 rfl rfl 0 (by decide) (hts (Cond.fieldLink RX0 65 "ChanceRings$Values" "part" "[J") qw_534) (fun _ h9 => h9) rfl dX0_expectPay_106 ?_
                refine lv_iload hx hb dX0_expectPay_109 (lv_at hl 0 rfl) ?_
                refine lv_aload_n hx hb dX0_expectPay_111 rfl (lv_at hl 2 rfl) ?_
                refine va_get (D := D) (ci := 0) (v := .ref n) (C := RX0) (T := TX0) (N := 3) hx hb hts inlX0 hown hK hP 1 rfl rfl 0 (by decide) (hts (Cond.fieldLink RX0 22 "ChanceRings$Course" "net" "LChanceRings$Net;") qw_483) (fun _ h9 => h9) rfl dX0_expectPay_112 ?_
                refine va_get (D := D) (ci := 2) (v := .ref n_pay) (C := RX2) (T := TX2) (N := 8) hx hb hts inlX2 hown hK hP 2 rfl rfl 2 (by decide) (hts (Cond.fieldLink RX0 70 "ChanceRings$Net" "pay" "[I") qw_495) (fun _ h9 => h9) rfl dX0_expectPay_115 ?_
                refine lv_iload hx hb dX0_expectPay_118 (lv_at hl 0 rfl) ?_
                refine va_iald hx hb hK hP 4 0 rfl rfl (tr_in h_80210 (by decide) (by decide)) dX0_expectPay_120 ?_
                refine lv_topi (fun v_80217 v_80217_e => ?_)
                refine lv_i2l hx hb dX0_expectPay_121 rfl ?_
                refine lv_topl (fun w_80218 _ => ?_)
                refine lv_aload hx hb dX0_expectPay_122 (lv_at hl 7 rfl) ?_
                refine va_get (D := D) (ci := 10) (v := .long ovw_80087) (C := RX10) (T := TX10) (N := 2) hx hb hts inlX10 hown hK hP 21 rfl rfl 1 (by decide) (hts (Cond.fieldLink RX0 73 "ChanceRings$Values" "whole" "J") qw_533) (fun _ h9 => h9) rfl dX0_expectPay_124 ?_
                refine lv_lmul hx hb dX0_expectPay_127 ?_
                refine lv_topl (fun w_80219 _ => ?_)
                refine va_last hx hb hK hP hD hS 22 1 rfl rfl (tr_in h_80210 (by decide) (by decide)) dX0_expectPay_128 (fun H locs hP hD hS => ?_)
                obtain ⟨f_80220, hP, hD⟩ : ∃ FX : Nat → Int64, va_P D vwCl [(wI g pl 0 12 plf), (wO0 co n eq co_place), (wO2 n n_nodes n_kind n_pay n_name n_ways n_held n_targets n_weights), (wI g n_kind 0 12 n_fkind), (wI g n_pay 0 12 n_fpay), (wI g n_ways 0 12 n_fways), (wI g n_held 0 12 n_fheld), (wI g n_targets 0 36 n_ftargets), (wI g n_weights 0 36 n_fweights), (wI g co_place 0 12 opc_79305), (wO1 eq eq_rows eq_right oew_80085), (wJ g eq_right 1 8 ofr_80086), (wR g eq_rows 5 8 (fun i => if i < 8 then some (rr i) else none)), (wJ g (rr 0) 1 8 (oct_80089 0)), (wJ g (rr 1) 1 8 (oct_80089 1)), (wJ g (rr 2) 1 8 (oct_80089 2)), (wJ g (rr 3) 1 8 (oct_80089 3)), (wJ g (rr 4) 1 8 (oct_80089 4)), (wJ g (rr 5) 1 8 (oct_80089 5)), (wJ g (rr 6) 1 8 (oct_80089 6)), (wJ g (rr 7) 1 8 (oct_80089 7)), (wO10 vs vs_part ovw_80087), (wJ g vs_part 1 12 FX)] H ∧ va_D A [(wI g pl 0 12 plf), (wO0 co n eq co_place), (wO2 n n_nodes n_kind n_pay n_name n_ways n_held n_targets n_weights), (wI g n_kind 0 12 n_fkind), (wI g n_pay 0 12 n_fpay), (wI g n_ways 0 12 n_fways), (wI g n_held 0 12 n_fheld), (wI g n_targets 0 36 n_ftargets), (wI g n_weights 0 36 n_fweights), (wI g co_place 0 12 opc_79305), (wO1 eq eq_rows eq_right oew_80085), (wJ g eq_right 1 8 ofr_80086), (wR g eq_rows 5 8 (fun i => if i < 8 then some (rr i) else none)), (wJ g (rr 0) 1 8 (oct_80089 0)), (wJ g (rr 1) 1 8 (oct_80089 1)), (wJ g (rr 2) 1 8 (oct_80089 2)), (wJ g (rr 3) 1 8 (oct_80089 3)), (wJ g (rr 4) 1 8 (oct_80089 4)), (wJ g (rr 5) 1 8 (oct_80089 5)), (wJ g (rr 6) 1 8 (oct_80089 6)), (wJ g (rr 7) 1 8 (oct_80089 7)), (wO10 vs vs_part ovw_80087), (wJ g vs_part 1 12 FX)] := ⟨_, hP, hD⟩
                have hP : va_P D vwCl [(wI g pl 0 12 plf), (wO0 co n eq co_place), (wO2 n n_nodes n_kind n_pay n_name n_ways n_held n_targets n_weights), (wI g n_kind 0 12 n_fkind), (wI g n_pay 0 12 n_fpay), (wI g n_ways 0 12 n_fways), (wI g n_held 0 12 n_fheld), (wI g n_targets 0 36 n_ftargets), (wI g n_weights 0 36 n_fweights), (wI g co_place 0 12 opc_79305), (wO1 eq eq_rows eq_right oew_80085), (wJ g eq_right 1 8 ofr_80086), (wR g eq_rows 5 8 (fun i => if i < 8 then some (rr i) else none)), (wJ g (rr 0) 1 8 (oct_80089 0)), (wJ g (rr 1) 1 8 (oct_80089 1)), (wJ g (rr 2) 1 8 (oct_80089 2)), (wJ g (rr 3) 1 8 (oct_80089 3)), (wJ g (rr 4) 1 8 (oct_80089 4)), (wJ g (rr 5) 1 8 (oct_80089 5)), (wJ g (rr 6) 1 8 (oct_80089 6)), (wJ g (rr 7) 1 8 (oct_80089 7)), (wO10 vs vs_part ovw_80087), (wJ g vs_part 1 12 f_80220)] H := hP
                have hD : va_D A [(wI g pl 0 12 plf), (wO0 co n eq co_place), (wO2 n n_nodes n_kind n_pay n_name n_ways n_held n_targets n_weights), (wI g n_kind 0 12 n_fkind), (wI g n_pay 0 12 n_fpay), (wI g n_ways 0 12 n_fways), (wI g n_held 0 12 n_fheld), (wI g n_targets 0 36 n_ftargets), (wI g n_weights 0 36 n_fweights), (wI g co_place 0 12 opc_79305), (wO1 eq eq_rows eq_right oew_80085), (wJ g eq_right 1 8 ofr_80086), (wR g eq_rows 5 8 (fun i => if i < 8 then some (rr i) else none)), (wJ g (rr 0) 1 8 (oct_80089 0)), (wJ g (rr 1) 1 8 (oct_80089 1)), (wJ g (rr 2) 1 8 (oct_80089 2)), (wJ g (rr 3) 1 8 (oct_80089 3)), (wJ g (rr 4) 1 8 (oct_80089 4)), (wJ g (rr 5) 1 8 (oct_80089 5)), (wJ g (rr 6) 1 8 (oct_80089 6)), (wJ g (rr 7) 1 8 (oct_80089 7)), (wO10 vs vs_part ovw_80087), (wJ g vs_part 1 12 f_80220)] := hD
                obtain ⟨v_80221, v_80221_e⟩ : ∃ y : Int32, y = x_80206 + Int32.ofInt 1 := ⟨_, rfl⟩
                have h_v_80221 : 1 ≤ (v_80221 : Int32).toInt ∧ (v_80221 : Int32).toInt ≤ 12 := by rw [v_80221_e]; exact tr_add h_80210 (⟨by decide, by decide⟩ : 1 ≤ (Int32.ofInt 1 : Int32).toInt ∧ (Int32.ofInt 1 : Int32).toInt ≤ 1) (by decide) (by decide) (by decide) (by decide)
                have q_v_80221 : v_80221.toInt = x_80206.toInt + 1 := by rw [v_80221_e]; exact tr_addE h_80210 (⟨by decide, by decide⟩ : 1 ≤ (Int32.ofInt 1 : Int32).toInt ∧ (Int32.ofInt 1 : Int32).toInt ≤ 1) (by decide) (by decide)
                refine lv_iinc (v := v_80221) (lv' := [(7, .int v_80221), (6, .int r_79304), (0, .ref co), (1, .ref pl), (2, .int p0), (3, .int p1), (4, .int p2), (5, .ref vs)]) hx hb dX0_expectPay_129 hl (k := 0) rfl v_80221_e.symm (by decide) rfl (fun ls hl => ?_)
                refine lv_goto (tgt := 79) hx hb dX0_expectPay_132 (by decide) ?_
                exact ih_80208 v_80221 f_80220 H _ ls (tr_w h_v_80221 (by decide) (by decide)) (by (first | (clear hw_79309 h_x_80078 h_v_80212 c_80213_i h_80215; omega) | omega)) (hP.sub [0, 1, 2, 3, 4, 5, 6, 7, 8, 9, 10, 11, 12, 13, 14, 15, 16, 17, 18, 19, 20, 21, 22] rfl) (hD.sub [0, 1, 2, 3, 4, 5, 6, 7, 8, 9, 10, 11, 12, 13, 14, 15, 16, 17, 18, 19, 20, 21, 22] (by decide) rfl) hS (lv_sub hl [0, 1, 2, 3, 4, 5, 6, 7] rfl)
        exact lp_80208 13 0 ovp_80088 H _ ls (⟨by decide, by decide⟩ : 0 ≤ (0 : Int32).toInt ∧ (0 : Int32).toInt ≤ 12) (by decide) (hP.sub [0, 1, 2, 3, 4, 5, 6, 7, 8, 9, 10, 11, 12, 13, 14, 15, 16, 17, 18, 19, 20, 21, 22] rfl) (hD.sub [0, 1, 2, 3, 4, 5, 6, 7, 8, 9, 10, 11, 12, 13, 14, 15, 16, 17, 18, 19, 20, 21, 22] (by decide) rfl) hS (lv_sub hl [0, 1, 2, 3, 4, 5, 6, 7] rfl)
      · skip
        have c_80081_i := Int32.lt_iff_toInt_lt.mp (Int32.not_le.mp c_80081)
        have h_80082 : 0 ≤ (x_80078 : Int32).toInt ∧ (x_80078 : Int32).toInt ≤ 11 := nr_lt_l h_x_80078 h_n_nodes c_80081_i (by decide) (by decide)
        have h_80083 : 1 ≤ (n_nodes : Int32).toInt ∧ (n_nodes : Int32).toInt ≤ 12 := nr_lt_r h_x_80078 h_n_nodes c_80081_i (by decide) (by decide)
        refine lv_aload_n hx hb dX0_expectPay_26 rfl (lv_at hl 2 rfl) ?_
        refine va_get (D := D) (ci := 0) (v := .ref co_place) (C := RX0) (T := TX0) (N := 3) hx hb hts inlX0 hown hK hP 2 rfl rfl 2 (by decide) (hts (Cond.fieldLink RX0 18 "ChanceRings$Course" "place" "[I") qw_494) (fun _ h9 => h9) rfl dX0_expectPay_27 ?_
        refine lv_iload hx hb dX0_expectPay_30 (lv_at hl 0 rfl) ?_
        refine va_iald hx hb hK hP 10 0 rfl rfl (tr_in h_80082 (by decide) (by decide)) dX0_expectPay_32 ?_
        refine lv_topi (fun v_80222 v_80222_e => ?_)
        have h_v_80222 : (-1) ≤ (v_80222 : Int32).toInt ∧ (v_80222 : Int32).toInt ≤ 7 := by rw [v_80222_e]; exact hf_79308 _
        refine lv_iconst (v := (-1)) hx hb dX0_expectPay_33 (by decide) ?_
        refine lv_icmp_eq (tgt := 62) hx hb dX0_expectPay_34 (by decide) (fun c_80223 => ?_) (fun c_80223 => ?_)
        · skip
          have c_80223_i : (v_80222 : Int32).toInt = ((-1) : Int32).toInt := congrArg Int32.toInt c_80223
          have h_80224 : (-1) ≤ (v_80222 : Int32).toInt ∧ (v_80222 : Int32).toInt ≤ (-1) := nr_eq_l h_v_80222 (⟨by decide, by decide⟩ : (-1) ≤ ((-1) : Int32).toInt ∧ ((-1) : Int32).toInt ≤ (-1)) c_80223_i (by decide) (by decide)
          obtain ⟨v_80226, v_80226_e⟩ : ∃ y : Int32, y = x_80078 + Int32.ofInt 1 := ⟨_, rfl⟩
          have h_v_80226 : 1 ≤ (v_80226 : Int32).toInt ∧ (v_80226 : Int32).toInt ≤ 12 := by rw [v_80226_e]; exact tr_add h_80082 (⟨by decide, by decide⟩ : 1 ≤ (Int32.ofInt 1 : Int32).toInt ∧ (Int32.ofInt 1 : Int32).toInt ≤ 1) (by decide) (by decide) (by decide) (by decide)
          have q_v_80226 : v_80226.toInt = x_80078.toInt + 1 := by rw [v_80226_e]; exact tr_addE h_80082 (⟨by decide, by decide⟩ : 1 ≤ (Int32.ofInt 1 : Int32).toInt ∧ (Int32.ofInt 1 : Int32).toInt ≤ 1) (by decide) (by decide)
          refine lv_iinc (v := v_80226) (lv' := [(7, .int v_80226), (6, .int r_79304), (0, .ref co), (1, .ref pl), (2, .int p0), (3, .int p1), (4, .int p2), (5, .ref vs)]) hx hb dX0_expectPay_62 hl (k := 0) rfl v_80226_e.symm (by decide) rfl (fun ls hl => ?_)
          refine lv_goto (tgt := 14) hx hb dX0_expectPay_65 (by decide) ?_
          exact ih_80080 v_80226 f_80079 H _ ls (tr_w h_v_80226 (by decide) (by decide)) (by (first | (clear hw_79309 h_v_80222 c_80223_i h_80224; omega) | omega)) (hP.sub [0, 1, 2, 3, 4, 5, 6, 7, 8, 9, 10, 11, 12, 13, 14, 15, 16, 17, 18, 19, 20, 21, 22] rfl) (hD.sub [0, 1, 2, 3, 4, 5, 6, 7, 8, 9, 10, 11, 12, 13, 14, 15, 16, 17, 18, 19, 20, 21, 22] (by decide) rfl) hS (lv_sub hl [0, 1, 2, 3, 4, 5, 6, 7] rfl)
        · skip
          have c_80223_i : ¬ (v_80222 : Int32).toInt = ((-1) : Int32).toInt := (fun q => c_80223 (Int32.toInt_inj.mp q))
          have h_80225 : 0 ≤ (v_80222 : Int32).toInt ∧ (v_80222 : Int32).toInt ≤ 7 := nr_ne_l h_v_80222 (⟨by decide, by decide⟩ : (-1) ≤ ((-1) : Int32).toInt ∧ ((-1) : Int32).toInt ≤ (-1)) c_80223_i (by decide) (by decide)
          refine lv_aload_n hx hb dX0_expectPay_37 rfl (lv_at hl 2 rfl) ?_
          refine va_get (D := D) (ci := 0) (v := .ref eq) (C := RX0) (T := TX0) (N := 3) hx hb hts inlX0 hown hK hP 2 rfl rfl 1 (by decide) (hts (Cond.fieldLink RX0 12 "ChanceRings$Course" "equations" "LChanceRings$Equations;") qw_517) (fun _ h9 => h9) rfl dX0_expectPay_38 ?_
          refine va_get (D := D) (ci := 1) (v := .ref eq_right) (C := RX1) (T := TX1) (N := 3) hx hb hts inlX1 hown hK hP 11 rfl rfl 1 (by decide) (hts (Cond.fieldLink RX0 53 "ChanceRings$Equations" "right" "[J") qw_535) (fun _ h9 => h9) rfl dX0_expectPay_41 ?_
          refine lv_aload_n hx hb dX0_expectPay_44 rfl (lv_at hl 2 rfl) ?_
          refine va_get (D := D) (ci := 0) (v := .ref co_place) (C := RX0) (T := TX0) (N := 3) hx hb hts inlX0 hown hK hP 2 rfl rfl 2 (by decide) (hts (Cond.fieldLink RX0 18 "ChanceRings$Course" "place" "[I") qw_494) (fun _ h9 => h9) rfl dX0_expectPay_45 ?_
          refine lv_iload hx hb dX0_expectPay_48 (lv_at hl 0 rfl) ?_
          refine va_iald hx hb hK hP 10 0 rfl rfl (tr_in h_80082 (by decide) (by decide)) dX0_expectPay_50 ?_
          refine tz_i (y := v_80222) v_80222_e.symm ?_
          refine lv_iload_n hx hb dX0_expectPay_51 rfl (lv_at hl 5 rfl) ?_
          refine lv_i2l hx hb dX0_expectPay_52 rfl ?_
          refine lv_topl (fun w_80227 _ => ?_)
          refine lv_aload_n hx hb dX0_expectPay_53 rfl (lv_at hl 2 rfl) ?_
          refine lv_aload_n hx hb dX0_expectPay_54 rfl (lv_at hl 3 rfl) ?_
          refine lv_iload hx hb dX0_expectPay_55 (lv_at hl 0 rfl) ?_
          have hPc := hP.sub (ws' := [(wO0 co n eq co_place), (wO2 n n_nodes n_kind n_pay n_name n_ways n_held n_targets n_weights), (wI g n_kind 0 12 n_fkind), (wI g n_pay 0 12 n_fpay), (wI g n_ways 0 12 n_fways), (wI g n_targets 0 36 n_ftargets), (wI g n_weights 0 36 n_fweights), (wI g pl 0 12 plf)]) [2, 3, 4, 5, 6, 8, 9, 22] rfl
          refine vp_callSl (va_Run.run (va_runV (As := [.ref pl, .int x_80078]) (rest := [.long w_80227, .int v_80222, .ref eq_right]) ⟨hx, hb, hml, hown, hts⟩ (c_X0_paidNext l D g co pl x_80078 n eq co_place n_nodes n_kind n_pay n_name n_ways n_held n_targets n_weights n_fkind n_fpay n_fways n_ftargets n_fweights plf (tr_w h_80082 (by decide) (by decide)) (tr_w h_80083 (by decide) (by decide)) (tr_wa h_n_fkind (by decide) (by decide)) (tr_wa h_n_fways (by decide) (by decide)) (tr_wa h_n_ftargets (by decide) (by decide)) (tr_wa h_plf (by decide) (by decide))) (cwV 2 hts (tz_gV qw_544 qw_545 qw_546 qw_490 qw_547) rfl rfl rfl (by decide +kernel) ⟨Nat.le_of_ble_eq_true rfl, Nat.le_of_ble_eq_true rfl⟩) ⟨tz_blS, va_recv hK hPc (ci := 0) (q0 := 0) rfl rfl, tz_preS hPc hK⟩ rfl rfl hl.1 rfl (lv_room (Nat.le_of_ble_eq_true rfl)) dX0_expectPay_57 ⟨Nat.le_of_ble_eq_true rfl, Nat.le_of_ble_eq_true rfl⟩)) (fun r_80228 hw => ?_)
          refine lv_lmul hx hb dX0_expectPay_60 ?_
          refine lv_topl (fun w_80229 _ => ?_)
          refine va_last hx hb hK hP hD hS 12 1 rfl rfl (tr_in h_80225 (by decide) (by decide)) dX0_expectPay_61 (fun H locs hP hD hS => ?_)
          obtain ⟨f_80230, hP, hD⟩ : ∃ FX : Nat → Int64, va_P D vwCl [(wO10 vs vs_part vsw), (wJ g vs_part 1 12 vsp), (wO0 co n eq co_place), (wO2 n n_nodes n_kind n_pay n_name n_ways n_held n_targets n_weights), (wI g n_kind 0 12 n_fkind), (wI g n_pay 0 12 n_fpay), (wI g n_ways 0 12 n_fways), (wI g n_held 0 12 n_fheld), (wI g n_targets 0 36 n_ftargets), (wI g n_weights 0 36 n_fweights), (wI g co_place 0 12 opc_79305), (wO1 eq eq_rows eq_right ew), (wJ g eq_right 1 8 FX), (wR g eq_rows 5 8 (fun i => if i < 8 then some (rr i) else none)), (wJ g (rr 0) 1 8 (oct_79307 0)), (wJ g (rr 1) 1 8 (oct_79307 1)), (wJ g (rr 2) 1 8 (oct_79307 2)), (wJ g (rr 3) 1 8 (oct_79307 3)), (wJ g (rr 4) 1 8 (oct_79307 4)), (wJ g (rr 5) 1 8 (oct_79307 5)), (wJ g (rr 6) 1 8 (oct_79307 6)), (wJ g (rr 7) 1 8 (oct_79307 7)), (wI g pl 0 12 plf)] H ∧ va_D A [(wO10 vs vs_part vsw), (wJ g vs_part 1 12 vsp), (wO0 co n eq co_place), (wO2 n n_nodes n_kind n_pay n_name n_ways n_held n_targets n_weights), (wI g n_kind 0 12 n_fkind), (wI g n_pay 0 12 n_fpay), (wI g n_ways 0 12 n_fways), (wI g n_held 0 12 n_fheld), (wI g n_targets 0 36 n_ftargets), (wI g n_weights 0 36 n_fweights), (wI g co_place 0 12 opc_79305), (wO1 eq eq_rows eq_right ew), (wJ g eq_right 1 8 FX), (wR g eq_rows 5 8 (fun i => if i < 8 then some (rr i) else none)), (wJ g (rr 0) 1 8 (oct_79307 0)), (wJ g (rr 1) 1 8 (oct_79307 1)), (wJ g (rr 2) 1 8 (oct_79307 2)), (wJ g (rr 3) 1 8 (oct_79307 3)), (wJ g (rr 4) 1 8 (oct_79307 4)), (wJ g (rr 5) 1 8 (oct_79307 5)), (wJ g (rr 6) 1 8 (oct_79307 6)), (wJ g (rr 7) 1 8 (oct_79307 7)), (wI g pl 0 12 plf)] := ⟨_, hP, hD⟩
          have hP : va_P D vwCl [(wO10 vs vs_part vsw), (wJ g vs_part 1 12 vsp), (wO0 co n eq co_place), (wO2 n n_nodes n_kind n_pay n_name n_ways n_held n_targets n_weights), (wI g n_kind 0 12 n_fkind), (wI g n_pay 0 12 n_fpay), (wI g n_ways 0 12 n_fways), (wI g n_held 0 12 n_fheld), (wI g n_targets 0 36 n_ftargets), (wI g n_weights 0 36 n_fweights), (wI g co_place 0 12 opc_79305), (wO1 eq eq_rows eq_right ew), (wJ g eq_right 1 8 f_80230), (wR g eq_rows 5 8 (fun i => if i < 8 then some (rr i) else none)), (wJ g (rr 0) 1 8 (oct_79307 0)), (wJ g (rr 1) 1 8 (oct_79307 1)), (wJ g (rr 2) 1 8 (oct_79307 2)), (wJ g (rr 3) 1 8 (oct_79307 3)), (wJ g (rr 4) 1 8 (oct_79307 4)), (wJ g (rr 5) 1 8 (oct_79307 5)), (wJ g (rr 6) 1 8 (oct_79307 6)), (wJ g (rr 7) 1 8 (oct_79307 7)), (wI g pl 0 12 plf)] H := hP
          have hD : va_D A [(wO10 vs vs_part vsw), (wJ g vs_part 1 12 vsp), (wO0 co n eq co_place), (wO2 n n_nodes n_kind n_pay n_name n_ways n_held n_targets n_weights), (wI g n_kind 0 12 n_fkind), (wI g n_pay 0 12 n_fpay), (wI g n_ways 0 12 n_fways), (wI g n_held 0 12 n_fheld), (wI g n_targets 0 36 n_ftargets), (wI g n_weights 0 36 n_fweights), (wI g co_place 0 12 opc_79305), (wO1 eq eq_rows eq_right ew), (wJ g eq_right 1 8 f_80230), (wR g eq_rows 5 8 (fun i => if i < 8 then some (rr i) else none)), (wJ g (rr 0) 1 8 (oct_79307 0)), (wJ g (rr 1) 1 8 (oct_79307 1)), (wJ g (rr 2) 1 8 (oct_79307 2)), (wJ g (rr 3) 1 8 (oct_79307 3)), (wJ g (rr 4) 1 8 (oct_79307 4)), (wJ g (rr 5) 1 8 (oct_79307 5)), (wJ g (rr 6) 1 8 (oct_79307 6)), (wJ g (rr 7) 1 8 (oct_79307 7)), (wI g pl 0 12 plf)] := hD
          obtain ⟨v_80231, v_80231_e⟩ : ∃ y : Int32, y = x_80078 + Int32.ofInt 1 := ⟨_, rfl⟩
          have h_v_80231 : 1 ≤ (v_80231 : Int32).toInt ∧ (v_80231 : Int32).toInt ≤ 12 := by rw [v_80231_e]; exact tr_add h_80082 (⟨by decide, by decide⟩ : 1 ≤ (Int32.ofInt 1 : Int32).toInt ∧ (Int32.ofInt 1 : Int32).toInt ≤ 1) (by decide) (by decide) (by decide) (by decide)
          have q_v_80231 : v_80231.toInt = x_80078.toInt + 1 := by rw [v_80231_e]; exact tr_addE h_80082 (⟨by decide, by decide⟩ : 1 ≤ (Int32.ofInt 1 : Int32).toInt ∧ (Int32.ofInt 1 : Int32).toInt ≤ 1) (by decide) (by decide)
          refine lv_iinc (v := v_80231) (lv' := [(7, .int v_80231), (6, .int r_79304), (0, .ref co), (1, .ref pl), (2, .int p0), (3, .int p1), (4, .int p2), (5, .ref vs)]) hx hb dX0_expectPay_62 hl (k := 0) rfl v_80231_e.symm (by decide) rfl (fun ls hl => ?_)
          refine lv_goto (tgt := 14) hx hb dX0_expectPay_65 (by decide) ?_
          exact ih_80080 v_80231 f_80230 H _ ls (tr_w h_v_80231 (by decide) (by decide)) (by (first | (clear hw_79309 h_v_80222 c_80223_i h_80225; omega) | omega)) (hP.sub [0, 1, 2, 3, 4, 5, 6, 7, 8, 9, 10, 11, 12, 13, 14, 15, 16, 17, 18, 19, 20, 21, 22] rfl) (hD.sub [0, 1, 2, 3, 4, 5, 6, 7, 8, 9, 10, 11, 12, 13, 14, 15, 16, 17, 18, 19, 20, 21, 22] (by decide) rfl) hS (lv_sub hl [0, 1, 2, 3, 4, 5, 6, 7] rfl)
  exact lp_80080 13 0 ofr_79306 H _ ls (⟨by decide, by decide⟩ : 0 ≤ (0 : Int32).toInt ∧ (0 : Int32).toInt ≤ 12) (by decide) (hP.sub [0, 1, 2, 3, 4, 5, 6, 7, 8, 9, 10, 11, 12, 13, 14, 15, 16, 17, 18, 19, 20, 21, 22] rfl) (hD.sub [0, 1, 2, 3, 4, 5, 6, 7, 8, 9, 10, 11, 12, 13, 14, 15, 16, 17, 18, 19, 20, 21, 22] (by decide) rfl) hS (lv_sub hl [0, 1, 2, 3, 4, 5, 6, 7] rfl)
set_option maxHeartbeats 4000000 in
set_option maxRecDepth 100000 in
theorem c_X0_expectMoves (l : Launch) (D : va_G) (g : Nat → ClassId) (sz : Nat) (co : Nat) (pl : Nat) (p0 : Int32) (vs : Nat) (n : Nat) (eq : Nat) (co_place : Nat) (n_nodes : Int32) (n_kind : Nat) (n_pay : Nat) (n_name : Nat) (n_ways : Nat) (n_held : Nat) (n_targets : Nat) (n_weights : Nat) (n_fkind : Nat → Int32) (n_fpay : Nat → Int32) (n_fways : Nat → Int32) (n_fheld : Nat → Int32) (n_ftargets : Nat → Int32) (n_fweights : Nat → Int32) (pcf : Nat → Int32) (eq_rows : Nat) (eq_right : Nat) (ew : Int64) (fr : Nat → Int64) (rr : Nat → Nat) (ct : Nat → Nat → Int64) (plf : Nat → Int32) (vs_part : Nat) (vsw : Int64) (vsp : Nat → Int64) (h_n_nodes : 0 ≤ (n_nodes : Int32).toInt ∧ (n_nodes : Int32).toInt ≤ 12) (h_n_fkind : ∀ j : Nat, 0 ≤ (n_fkind j).toInt ∧ (n_fkind j).toInt ≤ 3) (h_n_fways : ∀ j : Nat, 0 ≤ (n_fways j).toInt ∧ (n_fways j).toInt ≤ 3) (h_n_fheld : ∀ j : Nat, (-1) ≤ (n_fheld j).toInt ∧ (n_fheld j).toInt ≤ 2) (h_n_ftargets : ∀ j : Nat, 0 ≤ (n_ftargets j).toInt ∧ (n_ftargets j).toInt ≤ 11) (h_pcf : ∀ j : Nat, (-1) ≤ (pcf j).toInt ∧ (pcf j).toInt ≤ 7) (h_plf : ∀ j : Nat, 0 ≤ (plf j).toInt ∧ (plf j).toInt ≤ 2) : Met l yX0_expectMoves (.code yX0_expectMoves cX0_expectMoves 6 none :: wsL_law) ({ frames := 3, cells := 0, slots := 0, locals := 78 }) (va_Pc [.ref co, .ref pl, .int p0, .ref vs] (fun U => U.heap.size = sz ∧ va_P D vwCl [(wO0 co n eq co_place), (wO2 n n_nodes n_kind n_pay n_name n_ways n_held n_targets n_weights), (wI g n_kind 0 12 n_fkind), (wI g n_pay 0 12 n_fpay), (wI g n_ways 0 12 n_fways), (wI g n_held 0 12 n_fheld), (wI g n_targets 0 36 n_ftargets), (wI g n_weights 0 36 n_fweights), (wI g co_place 0 12 pcf), (wO1 eq eq_rows eq_right ew), (wJ g eq_right 1 8 fr), (wR g eq_rows 5 8 (fun i => if i < 8 then some (rr i) else none)), (wJ g (rr 0) 1 8 (ct 0)), (wJ g (rr 1) 1 8 (ct 1)), (wJ g (rr 2) 1 8 (ct 2)), (wJ g (rr 3) 1 8 (ct 3)), (wJ g (rr 4) 1 8 (ct 4)), (wJ g (rr 5) 1 8 (ct 5)), (wJ g (rr 6) 1 8 (ct 6)), (wJ g (rr 7) 1 8 (ct 7)), (wI g pl 0 12 plf), (wO10 vs vs_part vsw), (wJ g vs_part 1 12 vsp)] U.heap ∧ va_K D vwCl (TY g) U ∧ va_D (fun _ => True) [(wO0 co n eq co_place), (wO2 n n_nodes n_kind n_pay n_name n_ways n_held n_targets n_weights), (wI g n_kind 0 12 n_fkind), (wI g n_pay 0 12 n_fpay), (wI g n_ways 0 12 n_fways), (wI g n_held 0 12 n_fheld), (wI g n_targets 0 36 n_ftargets), (wI g n_weights 0 36 n_fweights), (wI g co_place 0 12 pcf), (wO1 eq eq_rows eq_right ew), (wJ g eq_right 1 8 fr), (wR g eq_rows 5 8 (fun i => if i < 8 then some (rr i) else none)), (wJ g (rr 0) 1 8 (ct 0)), (wJ g (rr 1) 1 8 (ct 1)), (wJ g (rr 2) 1 8 (ct 2)), (wJ g (rr 3) 1 8 (ct 3)), (wJ g (rr 4) 1 8 (ct 4)), (wJ g (rr 5) 1 8 (ct 5)), (wJ g (rr 6) 1 8 (ct 6)), (wJ g (rr 7) 1 8 (ct 7)), (wI g pl 0 12 plf), (wO10 vs vs_part vsw), (wJ g vs_part 1 12 vsp)])) (va_Qv (fun (_ : Unit) => True) (fun _ t => ∃ opc : Nat → Int32, ∃ oew : Int64, ∃ ofr : Nat → Int64, ∃ ovw : Int64, ∃ ovp : Nat → Int64, ∃ oct : Nat → Nat → Int64, (∀ j : Nat, (-1) ≤ (opc j).toInt ∧ (opc j).toInt ≤ 7) ∧ va_P D vwCl [(wO0 co n eq co_place), (wO2 n n_nodes n_kind n_pay n_name n_ways n_held n_targets n_weights), (wI g n_kind 0 12 n_fkind), (wI g n_pay 0 12 n_fpay), (wI g n_ways 0 12 n_fways), (wI g n_held 0 12 n_fheld), (wI g n_targets 0 36 n_ftargets), (wI g n_weights 0 36 n_fweights), (wI g co_place 0 12 opc), (wO1 eq eq_rows eq_right oew), (wJ g eq_right 1 8 ofr), (wR g eq_rows 5 8 (fun i => if i < 8 then some (rr i) else none)), (wJ g (rr 0) 1 8 (oct 0)), (wJ g (rr 1) 1 8 (oct 1)), (wJ g (rr 2) 1 8 (oct 2)), (wJ g (rr 3) 1 8 (oct 3)), (wJ g (rr 4) 1 8 (oct 4)), (wJ g (rr 5) 1 8 (oct 5)), (wJ g (rr 6) 1 8 (oct 6)), (wJ g (rr 7) 1 8 (oct 7)), (wI g pl 0 12 plf), (wO10 vs vs_part ovw), (wJ g vs_part 1 12 ovp)] t.heap ∧ va_D (va_A [(wO0 co n eq co_place), (wO2 n n_nodes n_kind n_pay n_name n_ways n_held n_targets n_weights), (wI g n_kind 0 12 n_fkind), (wI g n_pay 0 12 n_fpay), (wI g n_ways 0 12 n_fways), (wI g n_held 0 12 n_fheld), (wI g n_targets 0 36 n_ftargets), (wI g n_weights 0 36 n_fweights), (wI g co_place 0 12 pcf), (wO1 eq eq_rows eq_right ew), (wJ g eq_right 1 8 fr), (wR g eq_rows 5 8 (fun i => if i < 8 then some (rr i) else none)), (wJ g (rr 0) 1 8 (ct 0)), (wJ g (rr 1) 1 8 (ct 1)), (wJ g (rr 2) 1 8 (ct 2)), (wJ g (rr 3) 1 8 (ct 3)), (wJ g (rr 4) 1 8 (ct 4)), (wJ g (rr 5) 1 8 (ct 5)), (wJ g (rr 6) 1 8 (ct 6)), (wJ g (rr 7) 1 8 (ct 7)), (wI g pl 0 12 plf), (wO10 vs vs_part vsw), (wJ g vs_part 1 12 vsp)] sz) [(wO0 co n eq co_place), (wO2 n n_nodes n_kind n_pay n_name n_ways n_held n_targets n_weights), (wI g n_kind 0 12 n_fkind), (wI g n_pay 0 12 n_fpay), (wI g n_ways 0 12 n_fways), (wI g n_held 0 12 n_fheld), (wI g n_targets 0 36 n_ftargets), (wI g n_weights 0 36 n_fweights), (wI g co_place 0 12 opc), (wO1 eq eq_rows eq_right oew), (wJ g eq_right 1 8 ofr), (wR g eq_rows 5 8 (fun i => if i < 8 then some (rr i) else none)), (wJ g (rr 0) 1 8 (oct 0)), (wJ g (rr 1) 1 8 (oct 1)), (wJ g (rr 2) 1 8 (oct 2)), (wJ g (rr 3) 1 8 (oct 3)), (wJ g (rr 4) 1 8 (oct 4)), (wJ g (rr 5) 1 8 (oct 5)), (wJ g (rr 6) 1 8 (oct 6)), (wJ g (rr 7) 1 8 (oct 7)), (wI g pl 0 12 plf), (wO10 vs vs_part ovw), (wJ g vs_part 1 12 ovp)]) (va_A [(wO0 co n eq co_place), (wO2 n n_nodes n_kind n_pay n_name n_ways n_held n_targets n_weights), (wI g n_kind 0 12 n_fkind), (wI g n_pay 0 12 n_fpay), (wI g n_ways 0 12 n_fways), (wI g n_held 0 12 n_fheld), (wI g n_targets 0 36 n_ftargets), (wI g n_weights 0 36 n_fweights), (wI g co_place 0 12 pcf), (wO1 eq eq_rows eq_right ew), (wJ g eq_right 1 8 fr), (wR g eq_rows 5 8 (fun i => if i < 8 then some (rr i) else none)), (wJ g (rr 0) 1 8 (ct 0)), (wJ g (rr 1) 1 8 (ct 1)), (wJ g (rr 2) 1 8 (ct 2)), (wJ g (rr 3) 1 8 (ct 3)), (wJ g (rr 4) 1 8 (ct 4)), (wJ g (rr 5) 1 8 (ct 5)), (wJ g (rr 6) 1 8 (ct 6)), (wJ g (rr 7) 1 8 (ct 7)), (wI g pl 0 12 plf), (wO10 vs vs_part vsw), (wJ g vs_part 1 12 vsp)] sz)) 0 0 (va_A [(wO0 co n eq co_place), (wO2 n n_nodes n_kind n_pay n_name n_ways n_held n_targets n_weights), (wI g n_kind 0 12 n_fkind), (wI g n_pay 0 12 n_fpay), (wI g n_ways 0 12 n_fways), (wI g n_held 0 12 n_fheld), (wI g n_targets 0 36 n_ftargets), (wI g n_weights 0 36 n_fweights), (wI g co_place 0 12 pcf), (wO1 eq eq_rows eq_right ew), (wJ g eq_right 1 8 fr), (wR g eq_rows 5 8 (fun i => if i < 8 then some (rr i) else none)), (wJ g (rr 0) 1 8 (ct 0)), (wJ g (rr 1) 1 8 (ct 1)), (wJ g (rr 2) 1 8 (ct 2)), (wJ g (rr 3) 1 8 (ct 3)), (wJ g (rr 4) 1 8 (ct 4)), (wJ g (rr 5) 1 8 (ct 5)), (wJ g (rr 6) 1 8 (ct 6)), (wJ g (rr 7) 1 8 (ct 7)), (wI g pl 0 12 plf), (wO10 vs vs_part vsw), (wJ g vs_part 1 12 vsp)] sz) := by
  refine Met.ofW (cc := cX0_expectMoves) (maxL := 6) (ret := none) (by decide) rfl ?_
  intro p e s m args below meth c s₁ B hml hv
  obtain ⟨ha, hsz, hP, hK, hD0⟩ := hv
  have hx := B.exec
  have hb := B.bytes
  have hr := B.returns
  have hts0 := atoms_spec (ws := (.code yX0_expectMoves cX0_expectMoves 6 none :: wsL_law)) B.pre
  have hts : ∀ w ∈ wsL_law, w.before args s = true := fun w h => hts0 w (List.mem_cons_of_mem _ h)
  have hown : s.vm.findClass RX0 = some m.cls := findClass_of_methodNamed B.named
  have hlocks := B.notSynchronized
  subst hsz
  have hD := hD0.self (sz := s.heap.size)
  generalize hAe : va_A [(wO0 co n eq co_place), (wO2 n n_nodes n_kind n_pay n_name n_ways n_held n_targets n_weights), (wI g n_kind 0 12 n_fkind), (wI g n_pay 0 12 n_fpay), (wI g n_ways 0 12 n_fways), (wI g n_held 0 12 n_fheld), (wI g n_targets 0 36 n_ftargets), (wI g n_weights 0 36 n_fweights), (wI g co_place 0 12 pcf), (wO1 eq eq_rows eq_right ew), (wJ g eq_right 1 8 fr), (wR g eq_rows 5 8 (fun i => if i < 8 then some (rr i) else none)), (wJ g (rr 0) 1 8 (ct 0)), (wJ g (rr 1) 1 8 (ct 1)), (wJ g (rr 2) 1 8 (ct 2)), (wJ g (rr 3) 1 8 (ct 3)), (wJ g (rr 4) 1 8 (ct 4)), (wJ g (rr 5) 1 8 (ct 5)), (wJ g (rr 6) 1 8 (ct 6)), (wJ g (rr 7) 1 8 (ct 7)), (wI g pl 0 12 plf), (wO10 vs vs_part vsw), (wJ g vs_part 1 12 vsp)] s.heap.size = A at hD ⊢
  have hA : ∀ q : Nat, s.heap.size ≤ q → A q := fun q h => by rw [← hAe]; exact Or.inr h
  have hS : va_S A s.heap s.heap [] := va_S.rf
  have hP : va_P D vwCl [(wO0 co n eq co_place), (wO2 n n_nodes n_kind n_pay n_name n_ways n_held n_targets n_weights), (wI g n_kind 0 12 n_fkind), (wI g n_pay 0 12 n_fpay), (wI g n_ways 0 12 n_fways), (wI g n_held 0 12 n_fheld), (wI g n_targets 0 36 n_ftargets), (wI g n_weights 0 36 n_fweights), (wI g co_place 0 12 pcf), (wO1 eq eq_rows eq_right ew), (wJ g eq_right 1 8 fr), (wR g eq_rows 5 8 (fun i => if i < 8 then some (rr i) else none)), (wJ g (rr 0) 1 8 (ct 0)), (wJ g (rr 1) 1 8 (ct 1)), (wJ g (rr 2) 1 8 (ct 2)), (wJ g (rr 3) 1 8 (ct 3)), (wJ g (rr 4) 1 8 (ct 4)), (wJ g (rr 5) 1 8 (ct 5)), (wJ g (rr 6) 1 8 (ct 6)), (wJ g (rr 7) 1 8 (ct 7)), (wI g pl 0 12 plf), (wO10 vs vs_part vsw), (wJ g vs_part 1 12 vsp)] s.heap := hP
  refine W.eq (g2 := entryFrame m ([.ref co, .ref pl, .int p0, .ref vs] : List Value).toArray 6) (by rw [ha]) ?_
  have hl := lv_entry ([.ref co, .ref pl, .int p0, .ref vs]) (n := 6) (Nat.le_of_ble_eq_true rfl)
  rw [lg_entry_eq]
  generalize (lg_sl ([.ref co, .ref pl, .int p0, .ref vs]) ++ List.replicate (6 - (lg_sl ([.ref co, .ref pl, .int p0, .ref vs])).length) Slot.unset).toArray = ls at hl ⊢
  have hl : lv_has ls 6 [(0, .ref co), (1, .ref pl), (2, .int p0), (3, .ref vs)] := hl
  refine lv_aload_n hx hb dX0_expectMoves_0 rfl (lv_at hl 0 rfl) ?_
  refine lv_aload_n hx hb dX0_expectMoves_1 rfl (lv_at hl 1 rfl) ?_
  refine lv_iload_n hx hb dX0_expectMoves_2 rfl (lv_at hl 2 rfl) ?_
  refine lv_iconst (v := 1) hx hb dX0_expectMoves_3 (by decide) ?_
  refine lv_iconst (v := 1) hx hb dX0_expectMoves_4 (by decide) ?_
  have hPc := hP.sub (ws' := [(wO0 co n eq co_place), (wO2 n n_nodes n_kind n_pay n_name n_ways n_held n_targets n_weights), (wI g n_kind 0 12 n_fkind), (wI g n_pay 0 12 n_fpay), (wI g n_ways 0 12 n_fways), (wI g n_held 0 12 n_fheld), (wI g n_targets 0 36 n_ftargets), (wI g n_weights 0 36 n_fweights), (wI g co_place 0 12 pcf), (wO1 eq eq_rows eq_right ew), (wJ g eq_right 1 8 fr), (wR g eq_rows 5 8 (fun i => if i < 8 then some (rr i) else none)), (wJ g (rr 0) 1 8 (ct 0)), (wJ g (rr 1) 1 8 (ct 1)), (wJ g (rr 2) 1 8 (ct 2)), (wJ g (rr 3) 1 8 (ct 3)), (wJ g (rr 4) 1 8 (ct 4)), (wJ g (rr 5) 1 8 (ct 5)), (wJ g (rr 6) 1 8 (ct 6)), (wJ g (rr 7) 1 8 (ct 7)), (wI g pl 0 12 plf)]) [0, 1, 2, 3, 4, 5, 6, 7, 8, 9, 10, 11, 12, 13, 14, 15, 16, 17, 18, 19, 20] rfl
  have hDc := hD.sub (ws' := [(wO0 co n eq co_place), (wO2 n n_nodes n_kind n_pay n_name n_ways n_held n_targets n_weights), (wI g n_kind 0 12 n_fkind), (wI g n_pay 0 12 n_fpay), (wI g n_ways 0 12 n_fways), (wI g n_held 0 12 n_fheld), (wI g n_targets 0 36 n_ftargets), (wI g n_weights 0 36 n_fweights), (wI g co_place 0 12 pcf), (wO1 eq eq_rows eq_right ew), (wJ g eq_right 1 8 fr), (wR g eq_rows 5 8 (fun i => if i < 8 then some (rr i) else none)), (wJ g (rr 0) 1 8 (ct 0)), (wJ g (rr 1) 1 8 (ct 1)), (wJ g (rr 2) 1 8 (ct 2)), (wJ g (rr 3) 1 8 (ct 3)), (wJ g (rr 4) 1 8 (ct 4)), (wJ g (rr 5) 1 8 (ct 5)), (wJ g (rr 6) 1 8 (ct 6)), (wJ g (rr 7) 1 8 (ct 7)), (wI g pl 0 12 plf)]) [0, 1, 2, 3, 4, 5, 6, 7, 8, 9, 10, 11, 12, 13, 14, 15, 16, 17, 18, 19, 20] (by decide) rfl
  have hFc := va_free (wc := [(wO0 co n eq co_place), (wO2 n n_nodes n_kind n_pay n_name n_ways n_held n_targets n_weights), (wI g n_kind 0 12 n_fkind), (wI g n_pay 0 12 n_fpay), (wI g n_ways 0 12 n_fways), (wI g n_held 0 12 n_fheld), (wI g n_targets 0 36 n_ftargets), (wI g n_weights 0 36 n_fweights), (wI g co_place 0 12 pcf), (wO1 eq eq_rows eq_right ew), (wJ g eq_right 1 8 fr), (wR g eq_rows 5 8 (fun i => if i < 8 then some (rr i) else none)), (wJ g (rr 0) 1 8 (ct 0)), (wJ g (rr 1) 1 8 (ct 1)), (wJ g (rr 2) 1 8 (ct 2)), (wJ g (rr 3) 1 8 (ct 3)), (wJ g (rr 4) 1 8 (ct 4)), (wJ g (rr 5) 1 8 (ct 5)), (wJ g (rr 6) 1 8 (ct 6)), (wJ g (rr 7) 1 8 (ct 7)), (wI g pl 0 12 plf)]) hD hS hA [0, 1, 2, 3, 4, 5, 6, 7, 8, 9, 10, 11, 12, 13, 14, 15, 16, 17, 18, 19, 20] rfl
  refine va_calli (va_runV (As := [.ref pl, .int p0, .int 1, .int 1]) (rest := []) ⟨hx, hb, hml, hown, hts⟩ (c_X0_lay l D g s.heap.size co pl p0 1 1 n eq co_place n_nodes n_kind n_pay n_name n_ways n_held n_targets n_weights n_fkind n_fpay n_fways n_fheld n_ftargets n_fweights pcf eq_rows eq_right ew fr rr ct plf (tr_w h_n_nodes (by decide) (by decide)) (tr_wa h_n_fkind (by decide) (by decide)) (tr_wa h_n_fways (by decide) (by decide)) (tr_wa h_n_fheld (by decide) (by decide)) (tr_wa h_n_ftargets (by decide) (by decide)) (tr_wa h_pcf (by decide) (by decide)) (tr_wa h_plf (by decide) (by decide))) (cwV 4 hts (tz_gV qw_536 qw_537 qw_538 qw_490 qw_539) rfl rfl rfl (by decide +kernel) ⟨Nat.le_of_ble_eq_true rfl, Nat.le_of_ble_eq_true rfl⟩) ⟨tz_blQ, va_recv hK hPc (ci := 0) (q0 := 0) rfl rfl, tz_preQ hPc hK hDc⟩ rfl rfl hl.1 rfl (lv_room (Nat.le_of_ble_eq_true rfl)) dX0_expectMoves_5 ⟨Nat.le_of_ble_eq_true rfl, Nat.le_of_ble_eq_true rfl⟩) hS (fun q _ h => hFc q h) hFc (fun r_80232 u t H1 locs ht hvm hw hB hz1 hk1 hS => ?_)
  obtain ⟨opc_80233, ofr_80234, oct_80235, hf_80236, hP1, hD1⟩ := hB
  rw [ht] at hP1
  obtain ⟨hP, hD⟩ := va_join (wr := [(wO10 vs vs_part vsw), (wJ g vs_part 1 12 vsp)]) (w1 := [(wO0 co n eq co_place), (wO2 n n_nodes n_kind n_pay n_name n_ways n_held n_targets n_weights), (wI g n_kind 0 12 n_fkind), (wI g n_pay 0 12 n_fpay), (wI g n_ways 0 12 n_fways), (wI g n_held 0 12 n_fheld), (wI g n_targets 0 36 n_ftargets), (wI g n_weights 0 36 n_fweights), (wI g co_place 0 12 opc_80233), (wO1 eq eq_rows eq_right ew), (wJ g eq_right 1 8 ofr_80234), (wR g eq_rows 5 8 (fun i => if i < 8 then some (rr i) else none)), (wJ g (rr 0) 1 8 (oct_80235 0)), (wJ g (rr 1) 1 8 (oct_80235 1)), (wJ g (rr 2) 1 8 (oct_80235 2)), (wJ g (rr 3) 1 8 (oct_80235 3)), (wJ g (rr 4) 1 8 (oct_80235 4)), (wJ g (rr 5) 1 8 (oct_80235 5)), (wJ g (rr 6) 1 8 (oct_80235 6)), (wJ g (rr 7) 1 8 (oct_80235 7)), (wI g pl 0 12 plf)]) hP hD [0, 1, 2, 3, 4, 5, 6, 7, 8, 9, 10, 11, 12, 13, 14, 15, 16, 17, 18, 19, 20] [21, 22] rfl rfl (by decide) (by decide) hk1 hFc hP1 hD1
  generalize H1 = H at hP hS ⊢
  have hP : va_P D vwCl [(wO10 vs vs_part vsw), (wJ g vs_part 1 12 vsp), (wO0 co n eq co_place), (wO2 n n_nodes n_kind n_pay n_name n_ways n_held n_targets n_weights), (wI g n_kind 0 12 n_fkind), (wI g n_pay 0 12 n_fpay), (wI g n_ways 0 12 n_fways), (wI g n_held 0 12 n_fheld), (wI g n_targets 0 36 n_ftargets), (wI g n_weights 0 36 n_fweights), (wI g co_place 0 12 opc_80233), (wO1 eq eq_rows eq_right ew), (wJ g eq_right 1 8 ofr_80234), (wR g eq_rows 5 8 (fun i => if i < 8 then some (rr i) else none)), (wJ g (rr 0) 1 8 (oct_80235 0)), (wJ g (rr 1) 1 8 (oct_80235 1)), (wJ g (rr 2) 1 8 (oct_80235 2)), (wJ g (rr 3) 1 8 (oct_80235 3)), (wJ g (rr 4) 1 8 (oct_80235 4)), (wJ g (rr 5) 1 8 (oct_80235 5)), (wJ g (rr 6) 1 8 (oct_80235 6)), (wJ g (rr 7) 1 8 (oct_80235 7)), (wI g pl 0 12 plf)] H := hP
  have hD : va_D A [(wO10 vs vs_part vsw), (wJ g vs_part 1 12 vsp), (wO0 co n eq co_place), (wO2 n n_nodes n_kind n_pay n_name n_ways n_held n_targets n_weights), (wI g n_kind 0 12 n_fkind), (wI g n_pay 0 12 n_fpay), (wI g n_ways 0 12 n_fways), (wI g n_held 0 12 n_fheld), (wI g n_targets 0 36 n_ftargets), (wI g n_weights 0 36 n_fweights), (wI g co_place 0 12 opc_80233), (wO1 eq eq_rows eq_right ew), (wJ g eq_right 1 8 ofr_80234), (wR g eq_rows 5 8 (fun i => if i < 8 then some (rr i) else none)), (wJ g (rr 0) 1 8 (oct_80235 0)), (wJ g (rr 1) 1 8 (oct_80235 1)), (wJ g (rr 2) 1 8 (oct_80235 2)), (wJ g (rr 3) 1 8 (oct_80235 3)), (wJ g (rr 4) 1 8 (oct_80235 4)), (wJ g (rr 5) 1 8 (oct_80235 5)), (wJ g (rr 6) 1 8 (oct_80235 6)), (wJ g (rr 7) 1 8 (oct_80235 7)), (wI g pl 0 12 plf)] := hD
  have hw_80237 : 0 ≤ (r_80232 : Int32).toInt ∧ (r_80232 : Int32).toInt ≤ 8 := hw
  refine lv_istore (lv' := [(4, .int r_80232), (0, .ref co), (1, .ref pl), (2, .int p0), (3, .ref vs)]) hx hb dX0_expectMoves_8 hl (by decide) rfl (fun ls hl => ?_)
  refine lv_iconst (v := 0) hx hb dX0_expectMoves_10 (by decide) ?_
  refine lv_istore (lv' := [(5, .int 0), (4, .int r_80232), (0, .ref co), (1, .ref pl), (2, .int p0), (3, .ref vs)]) hx hb dX0_expectMoves_11 hl (by decide) rfl (fun ls hl => ?_)
  have lp_80396 : ∀ (n_80396 : Nat) (x_80394 : Int32) (f_80395 : Nat → Int64) (H : Heap) (locs : List Loc) (ls : Array Slot), (0 ≤ (x_80394 : Int32).toInt ∧ (x_80394 : Int32).toInt ≤ 12) → (12 - x_80394.toInt < (n_80396 : Int)) → va_P D vwCl [(wO10 vs vs_part vsw), (wJ g vs_part 1 12 vsp), (wO0 co n eq co_place), (wO2 n n_nodes n_kind n_pay n_name n_ways n_held n_targets n_weights), (wI g n_kind 0 12 n_fkind), (wI g n_pay 0 12 n_fpay), (wI g n_ways 0 12 n_fways), (wI g n_held 0 12 n_fheld), (wI g n_targets 0 36 n_ftargets), (wI g n_weights 0 36 n_fweights), (wI g co_place 0 12 opc_80233), (wO1 eq eq_rows eq_right ew), (wJ g eq_right 1 8 f_80395), (wR g eq_rows 5 8 (fun i => if i < 8 then some (rr i) else none)), (wJ g (rr 0) 1 8 (oct_80235 0)), (wJ g (rr 1) 1 8 (oct_80235 1)), (wJ g (rr 2) 1 8 (oct_80235 2)), (wJ g (rr 3) 1 8 (oct_80235 3)), (wJ g (rr 4) 1 8 (oct_80235 4)), (wJ g (rr 5) 1 8 (oct_80235 5)), (wJ g (rr 6) 1 8 (oct_80235 6)), (wJ g (rr 7) 1 8 (oct_80235 7)), (wI g pl 0 12 plf)] H → va_D A [(wO10 vs vs_part vsw), (wJ g vs_part 1 12 vsp), (wO0 co n eq co_place), (wO2 n n_nodes n_kind n_pay n_name n_ways n_held n_targets n_weights), (wI g n_kind 0 12 n_fkind), (wI g n_pay 0 12 n_fpay), (wI g n_ways 0 12 n_fways), (wI g n_held 0 12 n_fheld), (wI g n_targets 0 36 n_ftargets), (wI g n_weights 0 36 n_fweights), (wI g co_place 0 12 opc_80233), (wO1 eq eq_rows eq_right ew), (wJ g eq_right 1 8 f_80395), (wR g eq_rows 5 8 (fun i => if i < 8 then some (rr i) else none)), (wJ g (rr 0) 1 8 (oct_80235 0)), (wJ g (rr 1) 1 8 (oct_80235 1)), (wJ g (rr 2) 1 8 (oct_80235 2)), (wJ g (rr 3) 1 8 (oct_80235 3)), (wJ g (rr 4) 1 8 (oct_80235 4)), (wJ g (rr 5) 1 8 (oct_80235 5)), (wJ g (rr 6) 1 8 (oct_80235 6)), (wJ g (rr 7) 1 8 (oct_80235 7)), (wI g pl 0 12 plf)] → va_S A s.heap H locs → lv_has ls 6 [(5, .int x_80394), (4, .int r_80232), (0, .ref co), (1, .ref pl), (2, .int p0), (3, .ref vs)] → W p l e (headSpec (.code yX0_expectMoves cX0_expectMoves 6 none :: wsL_law) ({ frames := 3, cells := 0, slots := 0, locals := 78 })).room s m args below meth c H locs 0 0 (MQ below (va_Qv (fun (_ : Unit) => True) (fun _ t => ∃ opc : Nat → Int32, ∃ oew : Int64, ∃ ofr : Nat → Int64, ∃ ovw : Int64, ∃ ovp : Nat → Int64, ∃ oct : Nat → Nat → Int64, (∀ j : Nat, (-1) ≤ (opc j).toInt ∧ (opc j).toInt ≤ 7) ∧ va_P D vwCl [(wO0 co n eq co_place), (wO2 n n_nodes n_kind n_pay n_name n_ways n_held n_targets n_weights), (wI g n_kind 0 12 n_fkind), (wI g n_pay 0 12 n_fpay), (wI g n_ways 0 12 n_fways), (wI g n_held 0 12 n_fheld), (wI g n_targets 0 36 n_ftargets), (wI g n_weights 0 36 n_fweights), (wI g co_place 0 12 opc), (wO1 eq eq_rows eq_right oew), (wJ g eq_right 1 8 ofr), (wR g eq_rows 5 8 (fun i => if i < 8 then some (rr i) else none)), (wJ g (rr 0) 1 8 (oct 0)), (wJ g (rr 1) 1 8 (oct 1)), (wJ g (rr 2) 1 8 (oct 2)), (wJ g (rr 3) 1 8 (oct 3)), (wJ g (rr 4) 1 8 (oct 4)), (wJ g (rr 5) 1 8 (oct 5)), (wJ g (rr 6) 1 8 (oct 6)), (wJ g (rr 7) 1 8 (oct 7)), (wI g pl 0 12 plf), (wO10 vs vs_part ovw), (wJ g vs_part 1 12 ovp)] t.heap ∧ va_D A [(wO0 co n eq co_place), (wO2 n n_nodes n_kind n_pay n_name n_ways n_held n_targets n_weights), (wI g n_kind 0 12 n_fkind), (wI g n_pay 0 12 n_fpay), (wI g n_ways 0 12 n_fways), (wI g n_held 0 12 n_fheld), (wI g n_targets 0 36 n_ftargets), (wI g n_weights 0 36 n_fweights), (wI g co_place 0 12 opc), (wO1 eq eq_rows eq_right oew), (wJ g eq_right 1 8 ofr), (wR g eq_rows 5 8 (fun i => if i < 8 then some (rr i) else none)), (wJ g (rr 0) 1 8 (oct 0)), (wJ g (rr 1) 1 8 (oct 1)), (wJ g (rr 2) 1 8 (oct 2)), (wJ g (rr 3) 1 8 (oct 3)), (wJ g (rr 4) 1 8 (oct 4)), (wJ g (rr 5) 1 8 (oct 5)), (wJ g (rr 6) 1 8 (oct 6)), (wJ g (rr 7) 1 8 (oct 7)), (wI g pl 0 12 plf), (wO10 vs vs_part ovw), (wJ g vs_part 1 12 ovp)]) A) args s 0 0 A) (F0 m 13 ls []) := by
    intro n_80396
    induction n_80396 with
    | zero =>
      intro x_80394 f_80395 H locs ls h_x_80394 hm_80396 hP hD hS hl
      exfalso; omega
    | succ n_80396 ih_80396 =>
      intro x_80394 f_80395 H locs ls h_x_80394 hm_80396 hP hD hS hl
      refine lv_iload hx hb dX0_expectMoves_13 (lv_at hl 0 rfl) ?_
      refine lv_aload_n hx hb dX0_expectMoves_15 rfl (lv_at hl 2 rfl) ?_
      refine va_get (D := D) (ci := 0) (v := .ref n) (C := RX0) (T := TX0) (N := 3) hx hb hts inlX0 hown hK hP 2 rfl rfl 0 (by decide) (hts (Cond.fieldLink RX0 22 "ChanceRings$Course" "net" "LChanceRings$Net;") qw_483) (fun _ h9 => h9) rfl dX0_expectMoves_16 ?_
      refine va_get (D := D) (ci := 2) (v := .int n_nodes) (C := RX2) (T := TX2) (N := 8) hx hb hts inlX2 hown hK hP 3 rfl rfl 0 (by decide) (hts (Cond.fieldLink RX0 49 "ChanceRings$Net" "nodes" "I") qw_493) (fun _ h9 => h9) rfl dX0_expectMoves_19 ?_
      refine lv_icmp_ge (tgt := 67) hx hb dX0_expectMoves_22 (by decide) (fun c_80397 => ?_) (fun c_80397 => ?_)
      · skip
        refine lv_aload_n hx hb dX0_expectMoves_67 rfl (lv_at hl 2 rfl) ?_
        refine lv_iload hx hb dX0_expectMoves_68 (lv_at hl 1 rfl) ?_
        refine lv_aload_n hx hb dX0_expectMoves_70 rfl (lv_at hl 5 rfl) ?_
        have hPc := hP.sub (ws' := [(wO0 co n eq co_place), (wO2 n n_nodes n_kind n_pay n_name n_ways n_held n_targets n_weights), (wI g n_kind 0 12 n_fkind), (wI g n_pay 0 12 n_fpay), (wI g n_ways 0 12 n_fways), (wI g n_held 0 12 n_fheld), (wI g n_targets 0 36 n_ftargets), (wI g n_weights 0 36 n_fweights), (wI g co_place 0 12 opc_80233), (wO1 eq eq_rows eq_right ew), (wJ g eq_right 1 8 f_80395), (wR g eq_rows 5 8 (fun i => if i < 8 then some (rr i) else none)), (wJ g (rr 0) 1 8 (oct_80235 0)), (wJ g (rr 1) 1 8 (oct_80235 1)), (wJ g (rr 2) 1 8 (oct_80235 2)), (wJ g (rr 3) 1 8 (oct_80235 3)), (wJ g (rr 4) 1 8 (oct_80235 4)), (wJ g (rr 5) 1 8 (oct_80235 5)), (wJ g (rr 6) 1 8 (oct_80235 6)), (wJ g (rr 7) 1 8 (oct_80235 7)), (wO10 vs vs_part vsw), (wJ g vs_part 1 12 vsp)]) [2, 3, 4, 5, 6, 7, 8, 9, 10, 11, 12, 13, 14, 15, 16, 17, 18, 19, 20, 21, 0, 1] rfl
        have hDc := hD.sub (ws' := [(wO0 co n eq co_place), (wO2 n n_nodes n_kind n_pay n_name n_ways n_held n_targets n_weights), (wI g n_kind 0 12 n_fkind), (wI g n_pay 0 12 n_fpay), (wI g n_ways 0 12 n_fways), (wI g n_held 0 12 n_fheld), (wI g n_targets 0 36 n_ftargets), (wI g n_weights 0 36 n_fweights), (wI g co_place 0 12 opc_80233), (wO1 eq eq_rows eq_right ew), (wJ g eq_right 1 8 f_80395), (wR g eq_rows 5 8 (fun i => if i < 8 then some (rr i) else none)), (wJ g (rr 0) 1 8 (oct_80235 0)), (wJ g (rr 1) 1 8 (oct_80235 1)), (wJ g (rr 2) 1 8 (oct_80235 2)), (wJ g (rr 3) 1 8 (oct_80235 3)), (wJ g (rr 4) 1 8 (oct_80235 4)), (wJ g (rr 5) 1 8 (oct_80235 5)), (wJ g (rr 6) 1 8 (oct_80235 6)), (wJ g (rr 7) 1 8 (oct_80235 7)), (wO10 vs vs_part vsw), (wJ g vs_part 1 12 vsp)]) [2, 3, 4, 5, 6, 7, 8, 9, 10, 11, 12, 13, 14, 15, 16, 17, 18, 19, 20, 21, 0, 1] (by decide) rfl
        have hFc := va_free (wc := [(wO0 co n eq co_place), (wO2 n n_nodes n_kind n_pay n_name n_ways n_held n_targets n_weights), (wI g n_kind 0 12 n_fkind), (wI g n_pay 0 12 n_fpay), (wI g n_ways 0 12 n_fways), (wI g n_held 0 12 n_fheld), (wI g n_targets 0 36 n_ftargets), (wI g n_weights 0 36 n_fweights), (wI g co_place 0 12 opc_80233), (wO1 eq eq_rows eq_right ew), (wJ g eq_right 1 8 f_80395), (wR g eq_rows 5 8 (fun i => if i < 8 then some (rr i) else none)), (wJ g (rr 0) 1 8 (oct_80235 0)), (wJ g (rr 1) 1 8 (oct_80235 1)), (wJ g (rr 2) 1 8 (oct_80235 2)), (wJ g (rr 3) 1 8 (oct_80235 3)), (wJ g (rr 4) 1 8 (oct_80235 4)), (wJ g (rr 5) 1 8 (oct_80235 5)), (wJ g (rr 6) 1 8 (oct_80235 6)), (wJ g (rr 7) 1 8 (oct_80235 7)), (wO10 vs vs_part vsw), (wJ g vs_part 1 12 vsp)]) hD hS hA [2, 3, 4, 5, 6, 7, 8, 9, 10, 11, 12, 13, 14, 15, 16, 17, 18, 19, 20, 21, 0, 1] rfl
        refine va_callv (va_runV (As := [.int r_80232, .ref vs]) (rest := []) ⟨hx, hb, hml, hown, hts⟩ (c_X0_finish l D g H.size co r_80232 vs n eq co_place n_nodes n_kind n_pay n_name n_ways n_held n_targets n_weights n_fkind n_fpay n_fways n_fheld n_ftargets n_fweights opc_80233 eq_rows eq_right ew f_80395 rr oct_80235 vs_part vsw vsp (tr_w hw_80237 (by decide) (by decide)) (tr_w h_n_nodes (by decide) (by decide)) (tr_wa h_n_fkind (by decide) (by decide)) (tr_wa h_n_fways (by decide) (by decide)) (tr_wa h_n_fheld (by decide) (by decide)) (tr_wa h_n_ftargets (by decide) (by decide)) (tr_wa hf_80236 (by decide) (by decide))) (cwV 2 hts (tz_gV qw_540 qw_541 qw_542 qw_490 qw_543) rfl rfl rfl (by decide +kernel) ⟨Nat.le_of_ble_eq_true rfl, Nat.le_of_ble_eq_true rfl⟩) ⟨tz_blQ, va_recv hK hPc (ci := 0) (q0 := 0) rfl rfl, tz_preQ hPc hK hDc⟩ rfl rfl hl.1 rfl (lv_room (Nat.le_of_ble_eq_true rfl)) dX0_expectMoves_71 ⟨Nat.le_of_ble_eq_true rfl, Nat.le_of_ble_eq_true rfl⟩) hS (fun q _ h => hFc q h) hFc (fun u t H1 locs ht hvm hw hB hz1 hk1 hS => ?_)
        obtain ⟨oew_80401, ofr_80402, ovw_80403, ovp_80404, oct_80405, hP1, hD1⟩ := hB
        rw [ht] at hP1
        obtain ⟨hP, hD⟩ := va_join (wr := [(wI g pl 0 12 plf)]) (w1 := [(wO0 co n eq co_place), (wO2 n n_nodes n_kind n_pay n_name n_ways n_held n_targets n_weights), (wI g n_kind 0 12 n_fkind), (wI g n_pay 0 12 n_fpay), (wI g n_ways 0 12 n_fways), (wI g n_held 0 12 n_fheld), (wI g n_targets 0 36 n_ftargets), (wI g n_weights 0 36 n_fweights), (wI g co_place 0 12 opc_80233), (wO1 eq eq_rows eq_right oew_80401), (wJ g eq_right 1 8 ofr_80402), (wR g eq_rows 5 8 (fun i => if i < 8 then some (rr i) else none)), (wJ g (rr 0) 1 8 (oct_80405 0)), (wJ g (rr 1) 1 8 (oct_80405 1)), (wJ g (rr 2) 1 8 (oct_80405 2)), (wJ g (rr 3) 1 8 (oct_80405 3)), (wJ g (rr 4) 1 8 (oct_80405 4)), (wJ g (rr 5) 1 8 (oct_80405 5)), (wJ g (rr 6) 1 8 (oct_80405 6)), (wJ g (rr 7) 1 8 (oct_80405 7)), (wO10 vs vs_part ovw_80403), (wJ g vs_part 1 12 ovp_80404)]) hP hD [2, 3, 4, 5, 6, 7, 8, 9, 10, 11, 12, 13, 14, 15, 16, 17, 18, 19, 20, 21, 0, 1] [22] rfl rfl (by decide) (by decide) hk1 hFc hP1 hD1
        generalize H1 = H at hP hS ⊢
        have hP : va_P D vwCl [(wI g pl 0 12 plf), (wO0 co n eq co_place), (wO2 n n_nodes n_kind n_pay n_name n_ways n_held n_targets n_weights), (wI g n_kind 0 12 n_fkind), (wI g n_pay 0 12 n_fpay), (wI g n_ways 0 12 n_fways), (wI g n_held 0 12 n_fheld), (wI g n_targets 0 36 n_ftargets), (wI g n_weights 0 36 n_fweights), (wI g co_place 0 12 opc_80233), (wO1 eq eq_rows eq_right oew_80401), (wJ g eq_right 1 8 ofr_80402), (wR g eq_rows 5 8 (fun i => if i < 8 then some (rr i) else none)), (wJ g (rr 0) 1 8 (oct_80405 0)), (wJ g (rr 1) 1 8 (oct_80405 1)), (wJ g (rr 2) 1 8 (oct_80405 2)), (wJ g (rr 3) 1 8 (oct_80405 3)), (wJ g (rr 4) 1 8 (oct_80405 4)), (wJ g (rr 5) 1 8 (oct_80405 5)), (wJ g (rr 6) 1 8 (oct_80405 6)), (wJ g (rr 7) 1 8 (oct_80405 7)), (wO10 vs vs_part ovw_80403), (wJ g vs_part 1 12 ovp_80404)] H := hP
        have hD : va_D A [(wI g pl 0 12 plf), (wO0 co n eq co_place), (wO2 n n_nodes n_kind n_pay n_name n_ways n_held n_targets n_weights), (wI g n_kind 0 12 n_fkind), (wI g n_pay 0 12 n_fpay), (wI g n_ways 0 12 n_fways), (wI g n_held 0 12 n_fheld), (wI g n_targets 0 36 n_ftargets), (wI g n_weights 0 36 n_fweights), (wI g co_place 0 12 opc_80233), (wO1 eq eq_rows eq_right oew_80401), (wJ g eq_right 1 8 ofr_80402), (wR g eq_rows 5 8 (fun i => if i < 8 then some (rr i) else none)), (wJ g (rr 0) 1 8 (oct_80405 0)), (wJ g (rr 1) 1 8 (oct_80405 1)), (wJ g (rr 2) 1 8 (oct_80405 2)), (wJ g (rr 3) 1 8 (oct_80405 3)), (wJ g (rr 4) 1 8 (oct_80405 4)), (wJ g (rr 5) 1 8 (oct_80405 5)), (wJ g (rr 6) 1 8 (oct_80405 6)), (wJ g (rr 7) 1 8 (oct_80405 7)), (wO10 vs vs_part ovw_80403), (wJ g vs_part 1 12 ovp_80404)] := hD
        have hP9 := hP.sub (ws' := [(wO0 co n eq co_place), (wO2 n n_nodes n_kind n_pay n_name n_ways n_held n_targets n_weights), (wI g n_kind 0 12 n_fkind), (wI g n_pay 0 12 n_fpay), (wI g n_ways 0 12 n_fways), (wI g n_held 0 12 n_fheld), (wI g n_targets 0 36 n_ftargets), (wI g n_weights 0 36 n_fweights), (wI g co_place 0 12 opc_80233), (wO1 eq eq_rows eq_right oew_80401), (wJ g eq_right 1 8 ofr_80402), (wR g eq_rows 5 8 (fun i => if i < 8 then some (rr i) else none)), (wJ g (rr 0) 1 8 (oct_80405 0)), (wJ g (rr 1) 1 8 (oct_80405 1)), (wJ g (rr 2) 1 8 (oct_80405 2)), (wJ g (rr 3) 1 8 (oct_80405 3)), (wJ g (rr 4) 1 8 (oct_80405 4)), (wJ g (rr 5) 1 8 (oct_80405 5)), (wJ g (rr 6) 1 8 (oct_80405 6)), (wJ g (rr 7) 1 8 (oct_80405 7)), (wI g pl 0 12 plf), (wO10 vs vs_part ovw_80403), (wJ g vs_part 1 12 ovp_80404)]) [1, 2, 3, 4, 5, 6, 7, 8, 9, 10, 11, 12, 13, 14, 15, 16, 17, 18, 19, 20, 0, 21, 22] rfl
        have hD9 := hD.sub (ws' := [(wO0 co n eq co_place), (wO2 n n_nodes n_kind n_pay n_name n_ways n_held n_targets n_weights), (wI g n_kind 0 12 n_fkind), (wI g n_pay 0 12 n_fpay), (wI g n_ways 0 12 n_fways), (wI g n_held 0 12 n_fheld), (wI g n_targets 0 36 n_ftargets), (wI g n_weights 0 36 n_fweights), (wI g co_place 0 12 opc_80233), (wO1 eq eq_rows eq_right oew_80401), (wJ g eq_right 1 8 ofr_80402), (wR g eq_rows 5 8 (fun i => if i < 8 then some (rr i) else none)), (wJ g (rr 0) 1 8 (oct_80405 0)), (wJ g (rr 1) 1 8 (oct_80405 1)), (wJ g (rr 2) 1 8 (oct_80405 2)), (wJ g (rr 3) 1 8 (oct_80405 3)), (wJ g (rr 4) 1 8 (oct_80405 4)), (wJ g (rr 5) 1 8 (oct_80405 5)), (wJ g (rr 6) 1 8 (oct_80405 6)), (wJ g (rr 7) 1 8 (oct_80405 7)), (wI g pl 0 12 plf), (wO10 vs vs_part ovw_80403), (wJ g vs_part 1 12 ovp_80404)]) [1, 2, 3, 4, 5, 6, 7, 8, 9, 10, 11, 12, 13, 14, 15, 16, 17, 18, 19, 20, 0, 21, 22] (by decide) rfl
        exact W.vret hx hb hr (fun t ht hW => ⟨⟨(), rfl, trivial, opc_80233, oew_80401, ofr_80402, ovw_80403, ovp_80404, oct_80405, (tr_wa hf_80236 (by decide) (by decide)), by rw [ht]; exact hP9, hD9⟩, hS.F ht⟩) hS.2.2 dX0_expectMoves_74
      · skip
        have c_80397_i := Int32.lt_iff_toInt_lt.mp (Int32.not_le.mp c_80397)
        have h_80398 : 0 ≤ (x_80394 : Int32).toInt ∧ (x_80394 : Int32).toInt ≤ 11 := nr_lt_l h_x_80394 h_n_nodes c_80397_i (by decide) (by decide)
        have h_80399 : 1 ≤ (n_nodes : Int32).toInt ∧ (n_nodes : Int32).toInt ≤ 12 := nr_lt_r h_x_80394 h_n_nodes c_80397_i (by decide) (by decide)
        refine lv_aload_n hx hb dX0_expectMoves_25 rfl (lv_at hl 2 rfl) ?_
        refine va_get (D := D) (ci := 0) (v := .ref co_place) (C := RX0) (T := TX0) (N := 3) hx hb hts inlX0 hown hK hP 2 rfl rfl 2 (by decide) (hts (Cond.fieldLink RX0 18 "ChanceRings$Course" "place" "[I") qw_494) (fun _ h9 => h9) rfl dX0_expectMoves_26 ?_
        refine lv_iload hx hb dX0_expectMoves_29 (lv_at hl 0 rfl) ?_
        refine va_iald hx hb hK hP 10 0 rfl rfl (tr_in h_80398 (by decide) (by decide)) dX0_expectMoves_31 ?_
        refine lv_topi (fun v_80406 v_80406_e => ?_)
        have h_v_80406 : (-1) ≤ (v_80406 : Int32).toInt ∧ (v_80406 : Int32).toInt ≤ 7 := by rw [v_80406_e]; exact hf_80236 _
        refine lv_iconst (v := (-1)) hx hb dX0_expectMoves_32 (by decide) ?_
        refine lv_icmp_eq (tgt := 61) hx hb dX0_expectMoves_33 (by decide) (fun c_80407 => ?_) (fun c_80407 => ?_)
        · skip
          have c_80407_i : (v_80406 : Int32).toInt = ((-1) : Int32).toInt := congrArg Int32.toInt c_80407
          have h_80408 : (-1) ≤ (v_80406 : Int32).toInt ∧ (v_80406 : Int32).toInt ≤ (-1) := nr_eq_l h_v_80406 (⟨by decide, by decide⟩ : (-1) ≤ ((-1) : Int32).toInt ∧ ((-1) : Int32).toInt ≤ (-1)) c_80407_i (by decide) (by decide)
          obtain ⟨v_80410, v_80410_e⟩ : ∃ y : Int32, y = x_80394 + Int32.ofInt 1 := ⟨_, rfl⟩
          have h_v_80410 : 1 ≤ (v_80410 : Int32).toInt ∧ (v_80410 : Int32).toInt ≤ 12 := by rw [v_80410_e]; exact tr_add h_80398 (⟨by decide, by decide⟩ : 1 ≤ (Int32.ofInt 1 : Int32).toInt ∧ (Int32.ofInt 1 : Int32).toInt ≤ 1) (by decide) (by decide) (by decide) (by decide)
          have q_v_80410 : v_80410.toInt = x_80394.toInt + 1 := by rw [v_80410_e]; exact tr_addE h_80398 (⟨by decide, by decide⟩ : 1 ≤ (Int32.ofInt 1 : Int32).toInt ∧ (Int32.ofInt 1 : Int32).toInt ≤ 1) (by decide) (by decide)
          refine lv_iinc (v := v_80410) (lv' := [(5, .int v_80410), (4, .int r_80232), (0, .ref co), (1, .ref pl), (2, .int p0), (3, .ref vs)]) hx hb dX0_expectMoves_61 hl (k := 0) rfl v_80410_e.symm (by decide) rfl (fun ls hl => ?_)
          refine lv_goto (tgt := 13) hx hb dX0_expectMoves_64 (by decide) ?_
          exact ih_80396 v_80410 f_80395 H _ ls (tr_w h_v_80410 (by decide) (by decide)) (by (first | (clear hw_80237 h_v_80406 c_80407_i h_80408; omega) | omega)) (hP.sub [0, 1, 2, 3, 4, 5, 6, 7, 8, 9, 10, 11, 12, 13, 14, 15, 16, 17, 18, 19, 20, 21, 22] rfl) (hD.sub [0, 1, 2, 3, 4, 5, 6, 7, 8, 9, 10, 11, 12, 13, 14, 15, 16, 17, 18, 19, 20, 21, 22] (by decide) rfl) hS (lv_sub hl [0, 1, 2, 3, 4, 5] rfl)
        · skip
          have c_80407_i : ¬ (v_80406 : Int32).toInt = ((-1) : Int32).toInt := (fun q => c_80407 (Int32.toInt_inj.mp q))
          have h_80409 : 0 ≤ (v_80406 : Int32).toInt ∧ (v_80406 : Int32).toInt ≤ 7 := nr_ne_l h_v_80406 (⟨by decide, by decide⟩ : (-1) ≤ ((-1) : Int32).toInt ∧ ((-1) : Int32).toInt ≤ (-1)) c_80407_i (by decide) (by decide)
          refine lv_aload_n hx hb dX0_expectMoves_36 rfl (lv_at hl 2 rfl) ?_
          refine va_get (D := D) (ci := 0) (v := .ref eq) (C := RX0) (T := TX0) (N := 3) hx hb hts inlX0 hown hK hP 2 rfl rfl 1 (by decide) (hts (Cond.fieldLink RX0 12 "ChanceRings$Course" "equations" "LChanceRings$Equations;") qw_517) (fun _ h9 => h9) rfl dX0_expectMoves_37 ?_
          refine va_get (D := D) (ci := 1) (v := .ref eq_right) (C := RX1) (T := TX1) (N := 3) hx hb hts inlX1 hown hK hP 11 rfl rfl 1 (by decide) (hts (Cond.fieldLink RX0 53 "ChanceRings$Equations" "right" "[J") qw_535) (fun _ h9 => h9) rfl dX0_expectMoves_40 ?_
          refine lv_aload_n hx hb dX0_expectMoves_43 rfl (lv_at hl 2 rfl) ?_
          refine va_get (D := D) (ci := 0) (v := .ref co_place) (C := RX0) (T := TX0) (N := 3) hx hb hts inlX0 hown hK hP 2 rfl rfl 2 (by decide) (hts (Cond.fieldLink RX0 18 "ChanceRings$Course" "place" "[I") qw_494) (fun _ h9 => h9) rfl dX0_expectMoves_44 ?_
          refine lv_iload hx hb dX0_expectMoves_47 (lv_at hl 0 rfl) ?_
          refine va_iald hx hb hK hP 10 0 rfl rfl (tr_in h_80398 (by decide) (by decide)) dX0_expectMoves_49 ?_
          refine tz_i (y := v_80406) v_80406_e.symm ?_
          refine lv_aload_n hx hb dX0_expectMoves_50 rfl (lv_at hl 2 rfl) ?_
          refine va_get (D := D) (ci := 0) (v := .ref n) (C := RX0) (T := TX0) (N := 3) hx hb hts inlX0 hown hK hP 2 rfl rfl 0 (by decide) (hts (Cond.fieldLink RX0 22 "ChanceRings$Course" "net" "LChanceRings$Net;") qw_483) (fun _ h9 => h9) rfl dX0_expectMoves_51 ?_
          refine lv_iload hx hb dX0_expectMoves_54 (lv_at hl 0 rfl) ?_
          have hPc := hP.sub (ws' := [(wO2 n n_nodes n_kind n_pay n_name n_ways n_held n_targets n_weights), (wI g n_kind 0 12 n_fkind), (wI g n_ways 0 12 n_fways), (wI g n_weights 0 36 n_fweights)]) [3, 4, 6, 9] rfl
          refine vp_callSi (va_Run.run (va_runV (As := [.int x_80394]) (rest := [.int v_80406, .ref eq_right]) ⟨hx, hb, hml, hown, hts⟩ (c_X2_together l D g n x_80394 n_nodes n_kind n_pay n_name n_ways n_held n_targets n_weights n_fkind n_fways n_fweights (tr_w h_80398 (by decide) (by decide)) (tr_w h_80399 (by decide) (by decide)) (tr_wa h_n_fkind (by decide) (by decide)) (tr_wa h_n_fways (by decide) (by decide))) (cwV 1 hts (tz_gV qw_527 qw_445 qw_446 qw_322 qw_447) rfl rfl rfl (by decide +kernel) ⟨Nat.le_of_ble_eq_true rfl, Nat.le_of_ble_eq_true rfl⟩) ⟨tz_blS, va_recv hK hPc (ci := 2) (q0 := 0) rfl rfl, tz_preS hPc hK⟩ rfl rfl hl.1 rfl (lv_room (Nat.le_of_ble_eq_true rfl)) dX0_expectMoves_56 ⟨Nat.le_of_ble_eq_true rfl, Nat.le_of_ble_eq_true rfl⟩)) (fun r_80411 hw => ?_)
          refine lv_i2l hx hb dX0_expectMoves_59 rfl ?_
          refine lv_topl (fun w_80412 _ => ?_)
          refine va_last hx hb hK hP hD hS 12 1 rfl rfl (tr_in h_80409 (by decide) (by decide)) dX0_expectMoves_60 (fun H locs hP hD hS => ?_)
          obtain ⟨f_80413, hP, hD⟩ : ∃ FX : Nat → Int64, va_P D vwCl [(wO10 vs vs_part vsw), (wJ g vs_part 1 12 vsp), (wO0 co n eq co_place), (wO2 n n_nodes n_kind n_pay n_name n_ways n_held n_targets n_weights), (wI g n_kind 0 12 n_fkind), (wI g n_pay 0 12 n_fpay), (wI g n_ways 0 12 n_fways), (wI g n_held 0 12 n_fheld), (wI g n_targets 0 36 n_ftargets), (wI g n_weights 0 36 n_fweights), (wI g co_place 0 12 opc_80233), (wO1 eq eq_rows eq_right ew), (wJ g eq_right 1 8 FX), (wR g eq_rows 5 8 (fun i => if i < 8 then some (rr i) else none)), (wJ g (rr 0) 1 8 (oct_80235 0)), (wJ g (rr 1) 1 8 (oct_80235 1)), (wJ g (rr 2) 1 8 (oct_80235 2)), (wJ g (rr 3) 1 8 (oct_80235 3)), (wJ g (rr 4) 1 8 (oct_80235 4)), (wJ g (rr 5) 1 8 (oct_80235 5)), (wJ g (rr 6) 1 8 (oct_80235 6)), (wJ g (rr 7) 1 8 (oct_80235 7)), (wI g pl 0 12 plf)] H ∧ va_D A [(wO10 vs vs_part vsw), (wJ g vs_part 1 12 vsp), (wO0 co n eq co_place), (wO2 n n_nodes n_kind n_pay n_name n_ways n_held n_targets n_weights), (wI g n_kind 0 12 n_fkind), (wI g n_pay 0 12 n_fpay), (wI g n_ways 0 12 n_fways), (wI g n_held 0 12 n_fheld), (wI g n_targets 0 36 n_ftargets), (wI g n_weights 0 36 n_fweights), (wI g co_place 0 12 opc_80233), (wO1 eq eq_rows eq_right ew), (wJ g eq_right 1 8 FX), (wR g eq_rows 5 8 (fun i => if i < 8 then some (rr i) else none)), (wJ g (rr 0) 1 8 (oct_80235 0)), (wJ g (rr 1) 1 8 (oct_80235 1)), (wJ g (rr 2) 1 8 (oct_80235 2)), (wJ g (rr 3) 1 8 (oct_80235 3)), (wJ g (rr 4) 1 8 (oct_80235 4)), (wJ g (rr 5) 1 8 (oct_80235 5)), (wJ g (rr 6) 1 8 (oct_80235 6)), (wJ g (rr 7) 1 8 (oct_80235 7)), (wI g pl 0 12 plf)] := ⟨_, hP, hD⟩
          have hP : va_P D vwCl [(wO10 vs vs_part vsw), (wJ g vs_part 1 12 vsp), (wO0 co n eq co_place), (wO2 n n_nodes n_kind n_pay n_name n_ways n_held n_targets n_weights), (wI g n_kind 0 12 n_fkind), (wI g n_pay 0 12 n_fpay), (wI g n_ways 0 12 n_fways), (wI g n_held 0 12 n_fheld), (wI g n_targets 0 36 n_ftargets), (wI g n_weights 0 36 n_fweights), (wI g co_place 0 12 opc_80233), (wO1 eq eq_rows eq_right ew), (wJ g eq_right 1 8 f_80413), (wR g eq_rows 5 8 (fun i => if i < 8 then some (rr i) else none)), (wJ g (rr 0) 1 8 (oct_80235 0)), (wJ g (rr 1) 1 8 (oct_80235 1)), (wJ g (rr 2) 1 8 (oct_80235 2)), (wJ g (rr 3) 1 8 (oct_80235 3)), (wJ g (rr 4) 1 8 (oct_80235 4)), (wJ g (rr 5) 1 8 (oct_80235 5)), (wJ g (rr 6) 1 8 (oct_80235 6)), (wJ g (rr 7) 1 8 (oct_80235 7)), (wI g pl 0 12 plf)] H := hP
          have hD : va_D A [(wO10 vs vs_part vsw), (wJ g vs_part 1 12 vsp), (wO0 co n eq co_place), (wO2 n n_nodes n_kind n_pay n_name n_ways n_held n_targets n_weights), (wI g n_kind 0 12 n_fkind), (wI g n_pay 0 12 n_fpay), (wI g n_ways 0 12 n_fways), (wI g n_held 0 12 n_fheld), (wI g n_targets 0 36 n_ftargets), (wI g n_weights 0 36 n_fweights), (wI g co_place 0 12 opc_80233), (wO1 eq eq_rows eq_right ew), (wJ g eq_right 1 8 f_80413), (wR g eq_rows 5 8 (fun i => if i < 8 then some (rr i) else none)), (wJ g (rr 0) 1 8 (oct_80235 0)), (wJ g (rr 1) 1 8 (oct_80235 1)), (wJ g (rr 2) 1 8 (oct_80235 2)), (wJ g (rr 3) 1 8 (oct_80235 3)), (wJ g (rr 4) 1 8 (oct_80235 4)), (wJ g (rr 5) 1 8 (oct_80235 5)), (wJ g (rr 6) 1 8 (oct_80235 6)), (wJ g (rr 7) 1 8 (oct_80235 7)), (wI g pl 0 12 plf)] := hD
          obtain ⟨v_80414, v_80414_e⟩ : ∃ y : Int32, y = x_80394 + Int32.ofInt 1 := ⟨_, rfl⟩
          have h_v_80414 : 1 ≤ (v_80414 : Int32).toInt ∧ (v_80414 : Int32).toInt ≤ 12 := by rw [v_80414_e]; exact tr_add h_80398 (⟨by decide, by decide⟩ : 1 ≤ (Int32.ofInt 1 : Int32).toInt ∧ (Int32.ofInt 1 : Int32).toInt ≤ 1) (by decide) (by decide) (by decide) (by decide)
          have q_v_80414 : v_80414.toInt = x_80394.toInt + 1 := by rw [v_80414_e]; exact tr_addE h_80398 (⟨by decide, by decide⟩ : 1 ≤ (Int32.ofInt 1 : Int32).toInt ∧ (Int32.ofInt 1 : Int32).toInt ≤ 1) (by decide) (by decide)
          refine lv_iinc (v := v_80414) (lv' := [(5, .int v_80414), (4, .int r_80232), (0, .ref co), (1, .ref pl), (2, .int p0), (3, .ref vs)]) hx hb dX0_expectMoves_61 hl (k := 0) rfl v_80414_e.symm (by decide) rfl (fun ls hl => ?_)
          refine lv_goto (tgt := 13) hx hb dX0_expectMoves_64 (by decide) ?_
          exact ih_80396 v_80414 f_80413 H _ ls (tr_w h_v_80414 (by decide) (by decide)) (by (first | (clear hw_80237 h_v_80406 c_80407_i h_80409; omega) | omega)) (hP.sub [0, 1, 2, 3, 4, 5, 6, 7, 8, 9, 10, 11, 12, 13, 14, 15, 16, 17, 18, 19, 20, 21, 22] rfl) (hD.sub [0, 1, 2, 3, 4, 5, 6, 7, 8, 9, 10, 11, 12, 13, 14, 15, 16, 17, 18, 19, 20, 21, 22] (by decide) rfl) hS (lv_sub hl [0, 1, 2, 3, 4, 5] rfl)
  exact lp_80396 13 0 ofr_80234 H _ ls (⟨by decide, by decide⟩ : 0 ≤ (0 : Int32).toInt ∧ (0 : Int32).toInt ≤ 12) (by decide) (hP.sub [0, 1, 2, 3, 4, 5, 6, 7, 8, 9, 10, 11, 12, 13, 14, 15, 16, 17, 18, 19, 20, 21, 22] rfl) (hD.sub [0, 1, 2, 3, 4, 5, 6, 7, 8, 9, 10, 11, 12, 13, 14, 15, 16, 17, 18, 19, 20, 21, 22] (by decide) rfl) hS (lv_sub hl [0, 1, 2, 3, 4, 5] rfl)
