theorem qw_484 : Cond.methodLink RX5 32 yX2_payingEnds ∈ wsL_law := tseg_4 (by decide +kernel) (List.mem_of_getElem? (i := 80) (by decide +kernel))
theorem qw_485 : Cond.instanceMethod yX2_payingEnds ∈ wsL_law := tseg_3 (by decide +kernel) (List.mem_of_getElem? (i := 106) (by decide +kernel))
theorem qw_486 : Cond.selects RX2 yX2_payingEnds yX2_payingEnds ∈ wsL_law := tseg_3 (by decide +kernel) (List.mem_of_getElem? (i := 107) (by decide +kernel))
theorem qw_487 : Cond.code yX2_payingEnds cX2_payingEnds 3 (some .int) ∈ wsL_law := tseg_3 (by decide +kernel) (List.mem_of_getElem? (i := 108) (by decide +kernel))
theorem qw_488 : Cond.methodLink RX5 36 yX5_isBroughtToPay ∈ wsL_law := tseg_4 (by decide +kernel) (List.mem_of_getElem? (i := 81) (by decide +kernel))
theorem qw_489 : Cond.instanceMethod yX5_isBroughtToPay ∈ wsL_law := tseg_4 (by decide +kernel) (List.mem_of_getElem? (i := 83) (by decide +kernel))
theorem qw_490 : Cond.selects RX5 yX5_isBroughtToPay yX5_isBroughtToPay ∈ wsL_law := List.mem_filter.mpr ⟨List.mem_append_left _ (List.mem_of_getElem? (i := 34) (by decide +kernel)), by decide +kernel⟩
theorem qw_491 : Cond.initialized RX5 ∈ wsL_law := tseg_1 (by decide +kernel) (List.mem_of_getElem? (i := 11) (by decide +kernel))
theorem qw_492 : Cond.code yX5_isBroughtToPay cX5_isBroughtToPay 5 (some .boolean) ∈ wsL_law := tseg_4 (by decide +kernel) (List.mem_of_getElem? (i := 84) (by decide +kernel))
theorem qw_493 : Cond.methodLink RX5 29 yX5_broughtToPay ∈ wsL_law := tseg_4 (by decide +kernel) (List.mem_of_getElem? (i := 76) (by decide +kernel))
theorem qw_494 : Cond.instanceMethod yX5_broughtToPay ∈ wsL_law := tseg_4 (by decide +kernel) (List.mem_of_getElem? (i := 78) (by decide +kernel))
theorem qw_495 : Cond.selects RX5 yX5_broughtToPay yX5_broughtToPay ∈ wsL_law := List.mem_filter.mpr ⟨List.mem_append_left _ (List.mem_of_getElem? (i := 33) (by decide +kernel)), by decide +kernel⟩
theorem qw_496 : Cond.code yX5_broughtToPay cX5_broughtToPay 6 (some .int) ∈ wsL_law := tseg_4 (by decide +kernel) (List.mem_of_getElem? (i := 79) (by decide +kernel))
theorem qw_497 : Cond.fieldLink RX0 12 "ChanceRings$Course" "equations" "LChanceRings$Equations;" ∈ wsL_law := tseg_2 (by decide +kernel) (List.mem_of_getElem? (i := 52) (by decide +kernel))
theorem qw_498 : Cond.methodLink RX0 81 yX1_clear ∈ wsL_law := tseg_3 (by decide +kernel) (List.mem_of_getElem? (i := 138) (by decide +kernel))
theorem qw_499 : Cond.instanceMethod yX1_clear ∈ wsL_law := tseg_3 (by decide +kernel) (List.mem_of_getElem? (i := 139) (by decide +kernel))
theorem qw_500 : Cond.selects RX1 yX1_clear yX1_clear ∈ wsL_law := tseg_3 (by decide +kernel) (List.mem_of_getElem? (i := 140) (by decide +kernel))
theorem qw_501 : Cond.code yX1_clear cX1_clear 3 none ∈ wsL_law := tseg_3 (by decide +kernel) (List.mem_of_getElem? (i := 141) (by decide +kernel))
theorem qw_502 : Cond.methodLink RX0 84 yX0_placeOpen ∈ wsL_law := tseg_3 (by decide +kernel) (List.mem_of_getElem? (i := 142) (by decide +kernel))
theorem qw_503 : Cond.instanceMethod yX0_placeOpen ∈ wsL_law := tseg_3 (by decide +kernel) (List.mem_of_getElem? (i := 144) (by decide +kernel))
theorem qw_504 : Cond.selects RX0 yX0_placeOpen yX0_placeOpen ∈ wsL_law := List.mem_filter.mpr ⟨List.mem_append_left _ (List.mem_of_getElem? (i := 18) (by decide +kernel)), by decide +kernel⟩
theorem qw_505 : Cond.code yX0_placeOpen cX0_placeOpen 4 (some .int) ∈ wsL_law := tseg_3 (by decide +kernel) (List.mem_of_getElem? (i := 145) (by decide +kernel))
theorem qw_506 : Cond.fieldLink RX0 87 "ChanceRings$Equations" "rows" "[[J" ∈ wsL_law := tseg_2 (by decide +kernel) (List.mem_of_getElem? (i := 38) (by decide +kernel))
theorem qw_507 : Cond.methodLink RX0 77 yX2_together ∈ wsL_law := tseg_3 (by decide +kernel) (List.mem_of_getElem? (i := 146) (by decide +kernel))
theorem qw_508 : Cond.methodLink RX0 91 yX1_solve ∈ wsL_law := tseg_3 (by decide +kernel) (List.mem_of_getElem? (i := 155) (by decide +kernel))
theorem qw_509 : Cond.instanceMethod yX1_solve ∈ wsL_law := tseg_3 (by decide +kernel) (List.mem_of_getElem? (i := 156) (by decide +kernel))
theorem qw_510 : Cond.selects RX1 yX1_solve yX1_solve ∈ wsL_law := tseg_3 (by decide +kernel) (List.mem_of_getElem? (i := 157) (by decide +kernel))
theorem qw_511 : Cond.code yX1_solve cX1_solve 6 none ∈ wsL_law := tseg_3 (by decide +kernel) (List.mem_of_getElem? (i := 158) (by decide +kernel))
theorem qw_512 : Cond.fieldLink RX0 95 "ChanceRings$Equations" "whole" "J" ∈ wsL_law := tseg_2 (by decide +kernel) (List.mem_of_getElem? (i := 42) (by decide +kernel))
theorem qw_513 : Cond.fieldLink RX0 73 "ChanceRings$Values" "whole" "J" ∈ wsL_law := tseg_2 (by decide +kernel) (List.mem_of_getElem? (i := 93) (by decide +kernel))
theorem qw_514 : Cond.fieldLink RX0 65 "ChanceRings$Values" "part" "[J" ∈ wsL_law := tseg_2 (by decide +kernel) (List.mem_of_getElem? (i := 88) (by decide +kernel))
theorem qw_515 : Cond.fieldLink RX0 53 "ChanceRings$Equations" "right" "[J" ∈ wsL_law := tseg_2 (by decide +kernel) (List.mem_of_getElem? (i := 40) (by decide +kernel))
theorem qw_516 : Cond.methodLink RX0 45 yX0_lay ∈ wsL_law := tseg_3 (by decide +kernel) (List.mem_of_getElem? (i := 134) (by decide +kernel))
theorem qw_517 : Cond.instanceMethod yX0_lay ∈ wsL_law := tseg_3 (by decide +kernel) (List.mem_of_getElem? (i := 136) (by decide +kernel))
theorem qw_518 : Cond.selects RX0 yX0_lay yX0_lay ∈ wsL_law := List.mem_filter.mpr ⟨List.mem_append_left _ (List.mem_of_getElem? (i := 17) (by decide +kernel)), by decide +kernel⟩
theorem qw_519 : Cond.code yX0_lay cX0_lay 10 (some .int) ∈ wsL_law := tseg_3 (by decide +kernel) (List.mem_of_getElem? (i := 137) (by decide +kernel))
theorem qw_520 : Cond.methodLink RX0 61 yX0_finish ∈ wsL_law := tseg_3 (by decide +kernel) (List.mem_of_getElem? (i := 151) (by decide +kernel))
theorem qw_521 : Cond.instanceMethod yX0_finish ∈ wsL_law := tseg_3 (by decide +kernel) (List.mem_of_getElem? (i := 153) (by decide +kernel))
theorem qw_522 : Cond.selects RX0 yX0_finish yX0_finish ∈ wsL_law := List.mem_filter.mpr ⟨List.mem_append_left _ (List.mem_of_getElem? (i := 20) (by decide +kernel)), by decide +kernel⟩
theorem qw_523 : Cond.code yX0_finish cX0_finish 4 none ∈ wsL_law := tseg_3 (by decide +kernel) (List.mem_of_getElem? (i := 154) (by decide +kernel))
theorem qw_524 : Cond.methodLink RX0 57 yX0_paidNext ∈ wsL_law := tseg_3 (by decide +kernel) (List.mem_of_getElem? (i := 147) (by decide +kernel))
theorem qw_525 : Cond.instanceMethod yX0_paidNext ∈ wsL_law := tseg_3 (by decide +kernel) (List.mem_of_getElem? (i := 149) (by decide +kernel))
theorem qw_526 : Cond.selects RX0 yX0_paidNext yX0_paidNext ∈ wsL_law := List.mem_filter.mpr ⟨List.mem_append_left _ (List.mem_of_getElem? (i := 19) (by decide +kernel)), by decide +kernel⟩
theorem qw_527 : Cond.code yX0_paidNext cX0_paidNext 7 (some .long) ∈ wsL_law := tseg_3 (by decide +kernel) (List.mem_of_getElem? (i := 150) (by decide +kernel))
theorem dX0_expectMoves_0 : decode cX0_expectMoves 0 = .ok (.aload_n 0, 1) := by decide +kernel
theorem dX0_expectMoves_1 : decode cX0_expectMoves 1 = .ok (.aload_n 1, 1) := by decide +kernel
theorem dX0_expectMoves_2 : decode cX0_expectMoves 2 = .ok (.iload_n 2, 1) := by decide +kernel
theorem dX0_expectMoves_3 : decode cX0_expectMoves 3 = .ok (.iconst 1, 1) := by decide +kernel
theorem dX0_expectMoves_4 : decode cX0_expectMoves 4 = .ok (.iconst 1, 1) := by decide +kernel
theorem dX0_expectMoves_5 : decode cX0_expectMoves 5 = .ok (.invokevirtual 45, 3) := by decide +kernel
theorem dX0_expectMoves_8 : decode cX0_expectMoves 8 = .ok (.istore 4, 2) := by decide +kernel
theorem dX0_expectMoves_10 : decode cX0_expectMoves 10 = .ok (.iconst 0, 1) := by decide +kernel
theorem dX0_expectMoves_11 : decode cX0_expectMoves 11 = .ok (.istore 5, 2) := by decide +kernel
theorem dX0_expectMoves_13 : decode cX0_expectMoves 13 = .ok (.iload 5, 2) := by decide +kernel
theorem dX0_expectMoves_15 : decode cX0_expectMoves 15 = .ok (.aload_n 0, 1) := by decide +kernel
theorem dX0_expectMoves_16 : decode cX0_expectMoves 16 = .ok (.getfield 22, 3) := by decide +kernel
theorem dX0_expectMoves_19 : decode cX0_expectMoves 19 = .ok (.getfield 49, 3) := by decide +kernel
theorem dX0_expectMoves_22 : decode cX0_expectMoves 22 = .ok (.if_icmp .ge 45, 3) := by decide +kernel
theorem dX0_expectMoves_25 : decode cX0_expectMoves 25 = .ok (.aload_n 0, 1) := by decide +kernel
theorem dX0_expectMoves_26 : decode cX0_expectMoves 26 = .ok (.getfield 18, 3) := by decide +kernel
theorem dX0_expectMoves_29 : decode cX0_expectMoves 29 = .ok (.iload 5, 2) := by decide +kernel
theorem dX0_expectMoves_31 : decode cX0_expectMoves 31 = .ok (.iaload, 1) := by decide +kernel
theorem dX0_expectMoves_32 : decode cX0_expectMoves 32 = .ok (.iconst (-1), 1) := by decide +kernel
theorem dX0_expectMoves_33 : decode cX0_expectMoves 33 = .ok (.if_icmp .eq 28, 3) := by decide +kernel
theorem dX0_expectMoves_36 : decode cX0_expectMoves 36 = .ok (.aload_n 0, 1) := by decide +kernel
theorem dX0_expectMoves_37 : decode cX0_expectMoves 37 = .ok (.getfield 12, 3) := by decide +kernel
theorem dX0_expectMoves_40 : decode cX0_expectMoves 40 = .ok (.getfield 53, 3) := by decide +kernel
theorem dX0_expectMoves_43 : decode cX0_expectMoves 43 = .ok (.aload_n 0, 1) := by decide +kernel
theorem dX0_expectMoves_44 : decode cX0_expectMoves 44 = .ok (.getfield 18, 3) := by decide +kernel
theorem dX0_expectMoves_47 : decode cX0_expectMoves 47 = .ok (.iload 5, 2) := by decide +kernel
theorem dX0_expectMoves_49 : decode cX0_expectMoves 49 = .ok (.iaload, 1) := by decide +kernel
theorem dX0_expectMoves_50 : decode cX0_expectMoves 50 = .ok (.aload_n 0, 1) := by decide +kernel
theorem dX0_expectMoves_51 : decode cX0_expectMoves 51 = .ok (.getfield 22, 3) := by decide +kernel
theorem dX0_expectMoves_54 : decode cX0_expectMoves 54 = .ok (.iload 5, 2) := by decide +kernel
theorem dX0_expectMoves_56 : decode cX0_expectMoves 56 = .ok (.invokevirtual 77, 3) := by decide +kernel
theorem dX0_expectMoves_59 : decode cX0_expectMoves 59 = .ok (.i2l, 1) := by decide +kernel
theorem dX0_expectMoves_60 : decode cX0_expectMoves 60 = .ok (.lastore, 1) := by decide +kernel
theorem dX0_expectMoves_61 : decode cX0_expectMoves 61 = .ok (.iinc 5 1, 3) := by decide +kernel
theorem dX0_expectMoves_64 : decode cX0_expectMoves 64 = .ok (.goto (-51), 3) := by decide +kernel
theorem dX0_expectMoves_67 : decode cX0_expectMoves 67 = .ok (.aload_n 0, 1) := by decide +kernel
theorem dX0_expectMoves_68 : decode cX0_expectMoves 68 = .ok (.iload 4, 2) := by decide +kernel
theorem dX0_expectMoves_70 : decode cX0_expectMoves 70 = .ok (.aload_n 3, 1) := by decide +kernel
theorem dX0_expectMoves_71 : decode cX0_expectMoves 71 = .ok (.invokevirtual 61, 3) := by decide +kernel
theorem dX0_expectMoves_74 : decode cX0_expectMoves 74 = .ok (.return_, 1) := by decide +kernel
theorem dX0_expectPay_0 : decode cX0_expectPay 0 = .ok (.aload_n 0, 1) := by decide +kernel
theorem dX0_expectPay_1 : decode cX0_expectPay 1 = .ok (.aload_n 1, 1) := by decide +kernel
theorem dX0_expectPay_2 : decode cX0_expectPay 2 = .ok (.iload_n 2, 1) := by decide +kernel
theorem dX0_expectPay_3 : decode cX0_expectPay 3 = .ok (.iload_n 3, 1) := by decide +kernel
theorem dX0_expectPay_4 : decode cX0_expectPay 4 = .ok (.iload 4, 2) := by decide +kernel
theorem dX0_expectPay_6 : decode cX0_expectPay 6 = .ok (.invokevirtual 45, 3) := by decide +kernel
theorem dX0_expectPay_9 : decode cX0_expectPay 9 = .ok (.istore 6, 2) := by decide +kernel
theorem dX0_expectPay_11 : decode cX0_expectPay 11 = .ok (.iconst 0, 1) := by decide +kernel
theorem dX0_expectPay_12 : decode cX0_expectPay 12 = .ok (.istore 7, 2) := by decide +kernel
theorem dX0_expectPay_14 : decode cX0_expectPay 14 = .ok (.iload 7, 2) := by decide +kernel
theorem dX0_expectPay_16 : decode cX0_expectPay 16 = .ok (.aload_n 0, 1) := by decide +kernel
theorem dX0_expectPay_17 : decode cX0_expectPay 17 = .ok (.getfield 22, 3) := by decide +kernel
theorem dX0_expectPay_20 : decode cX0_expectPay 20 = .ok (.getfield 49, 3) := by decide +kernel
theorem dX0_expectPay_23 : decode cX0_expectPay 23 = .ok (.if_icmp .ge 45, 3) := by decide +kernel
theorem dX0_expectPay_26 : decode cX0_expectPay 26 = .ok (.aload_n 0, 1) := by decide +kernel
theorem dX0_expectPay_27 : decode cX0_expectPay 27 = .ok (.getfield 18, 3) := by decide +kernel
theorem dX0_expectPay_30 : decode cX0_expectPay 30 = .ok (.iload 7, 2) := by decide +kernel
theorem dX0_expectPay_32 : decode cX0_expectPay 32 = .ok (.iaload, 1) := by decide +kernel
theorem dX0_expectPay_33 : decode cX0_expectPay 33 = .ok (.iconst (-1), 1) := by decide +kernel
theorem dX0_expectPay_34 : decode cX0_expectPay 34 = .ok (.if_icmp .eq 28, 3) := by decide +kernel
theorem dX0_expectPay_37 : decode cX0_expectPay 37 = .ok (.aload_n 0, 1) := by decide +kernel
theorem dX0_expectPay_38 : decode cX0_expectPay 38 = .ok (.getfield 12, 3) := by decide +kernel
theorem dX0_expectPay_41 : decode cX0_expectPay 41 = .ok (.getfield 53, 3) := by decide +kernel
theorem dX0_expectPay_44 : decode cX0_expectPay 44 = .ok (.aload_n 0, 1) := by decide +kernel
theorem dX0_expectPay_45 : decode cX0_expectPay 45 = .ok (.getfield 18, 3) := by decide +kernel
theorem dX0_expectPay_48 : decode cX0_expectPay 48 = .ok (.iload 7, 2) := by decide +kernel
theorem dX0_expectPay_50 : decode cX0_expectPay 50 = .ok (.iaload, 1) := by decide +kernel
theorem dX0_expectPay_51 : decode cX0_expectPay 51 = .ok (.iload_n 3, 1) := by decide +kernel
theorem dX0_expectPay_52 : decode cX0_expectPay 52 = .ok (.i2l, 1) := by decide +kernel
theorem dX0_expectPay_53 : decode cX0_expectPay 53 = .ok (.aload_n 0, 1) := by decide +kernel
theorem dX0_expectPay_54 : decode cX0_expectPay 54 = .ok (.aload_n 1, 1) := by decide +kernel
theorem dX0_expectPay_55 : decode cX0_expectPay 55 = .ok (.iload 7, 2) := by decide +kernel
theorem dX0_expectPay_57 : decode cX0_expectPay 57 = .ok (.invokevirtual 57, 3) := by decide +kernel
theorem dX0_expectPay_60 : decode cX0_expectPay 60 = .ok (.lmul, 1) := by decide +kernel
theorem dX0_expectPay_61 : decode cX0_expectPay 61 = .ok (.lastore, 1) := by decide +kernel
theorem dX0_expectPay_62 : decode cX0_expectPay 62 = .ok (.iinc 7 1, 3) := by decide +kernel
theorem dX0_expectPay_65 : decode cX0_expectPay 65 = .ok (.goto (-51), 3) := by decide +kernel
theorem dX0_expectPay_68 : decode cX0_expectPay 68 = .ok (.aload_n 0, 1) := by decide +kernel
theorem dX0_expectPay_69 : decode cX0_expectPay 69 = .ok (.iload 6, 2) := by decide +kernel
theorem dX0_expectPay_71 : decode cX0_expectPay 71 = .ok (.aload 5, 2) := by decide +kernel
theorem dX0_expectPay_73 : decode cX0_expectPay 73 = .ok (.invokevirtual 61, 3) := by decide +kernel
theorem dX0_expectPay_76 : decode cX0_expectPay 76 = .ok (.iconst 0, 1) := by decide +kernel
theorem dX0_expectPay_77 : decode cX0_expectPay 77 = .ok (.istore 7, 2) := by decide +kernel
theorem dX0_expectPay_79 : decode cX0_expectPay 79 = .ok (.iload 7, 2) := by decide +kernel
theorem dX0_expectPay_81 : decode cX0_expectPay 81 = .ok (.aload_n 0, 1) := by decide +kernel
theorem dX0_expectPay_82 : decode cX0_expectPay 82 = .ok (.getfield 22, 3) := by decide +kernel
theorem dX0_expectPay_85 : decode cX0_expectPay 85 = .ok (.getfield 49, 3) := by decide +kernel
theorem dX0_expectPay_88 : decode cX0_expectPay 88 = .ok (.if_icmp .ge 47, 3) := by decide +kernel
theorem dX0_expectPay_91 : decode cX0_expectPay 91 = .ok (.aload_n 0, 1) := by decide +kernel
theorem dX0_expectPay_92 : decode cX0_expectPay 92 = .ok (.getfield 22, 3) := by decide +kernel
theorem dX0_expectPay_95 : decode cX0_expectPay 95 = .ok (.getfield 26, 3) := by decide +kernel
theorem dX0_expectPay_98 : decode cX0_expectPay 98 = .ok (.iload 7, 2) := by decide +kernel
theorem dX0_expectPay_100 : decode cX0_expectPay 100 = .ok (.iaload, 1) := by decide +kernel
theorem dX0_expectPay_101 : decode cX0_expectPay 101 = .ok (.ifCond .ne 28, 3) := by decide +kernel
theorem dX0_expectPay_104 : decode cX0_expectPay 104 = .ok (.aload 5, 2) := by decide +kernel
theorem dX0_expectPay_106 : decode cX0_expectPay 106 = .ok (.getfield 65, 3) := by decide +kernel
theorem dX0_expectPay_109 : decode cX0_expectPay 109 = .ok (.iload 7, 2) := by decide +kernel
theorem dX0_expectPay_111 : decode cX0_expectPay 111 = .ok (.aload_n 0, 1) := by decide +kernel
theorem dX0_expectPay_112 : decode cX0_expectPay 112 = .ok (.getfield 22, 3) := by decide +kernel
theorem dX0_expectPay_115 : decode cX0_expectPay 115 = .ok (.getfield 70, 3) := by decide +kernel
theorem dX0_expectPay_118 : decode cX0_expectPay 118 = .ok (.iload 7, 2) := by decide +kernel
theorem dX0_expectPay_120 : decode cX0_expectPay 120 = .ok (.iaload, 1) := by decide +kernel
theorem dX0_expectPay_121 : decode cX0_expectPay 121 = .ok (.i2l, 1) := by decide +kernel
theorem dX0_expectPay_122 : decode cX0_expectPay 122 = .ok (.aload 5, 2) := by decide +kernel
theorem dX0_expectPay_124 : decode cX0_expectPay 124 = .ok (.getfield 73, 3) := by decide +kernel
theorem dX0_expectPay_127 : decode cX0_expectPay 127 = .ok (.lmul, 1) := by decide +kernel
theorem dX0_expectPay_128 : decode cX0_expectPay 128 = .ok (.lastore, 1) := by decide +kernel
theorem dX0_expectPay_129 : decode cX0_expectPay 129 = .ok (.iinc 7 1, 3) := by decide +kernel
theorem dX0_expectPay_132 : decode cX0_expectPay 132 = .ok (.goto (-53), 3) := by decide +kernel
theorem dX0_expectPay_135 : decode cX0_expectPay 135 = .ok (.return_, 1) := by decide +kernel
theorem dX0_finish_0 : decode cX0_finish 0 = .ok (.aload_n 0, 1) := by decide +kernel
theorem dX0_finish_1 : decode cX0_finish 1 = .ok (.getfield 12, 3) := by decide +kernel
theorem dX0_finish_4 : decode cX0_finish 4 = .ok (.iload_n 1, 1) := by decide +kernel
theorem dX0_finish_5 : decode cX0_finish 5 = .ok (.invokevirtual 91, 3) := by decide +kernel
theorem dX0_finish_8 : decode cX0_finish 8 = .ok (.aload_n 2, 1) := by decide +kernel
theorem dX0_finish_9 : decode cX0_finish 9 = .ok (.aload_n 0, 1) := by decide +kernel
theorem dX0_finish_10 : decode cX0_finish 10 = .ok (.getfield 12, 3) := by decide +kernel
theorem dX0_finish_13 : decode cX0_finish 13 = .ok (.getfield 95, 3) := by decide +kernel
theorem dX0_finish_16 : decode cX0_finish 16 = .ok (.putfield 73, 3) := by decide +kernel
theorem dX0_finish_19 : decode cX0_finish 19 = .ok (.iconst 0, 1) := by decide +kernel
theorem dX0_finish_20 : decode cX0_finish 20 = .ok (.istore_n 3, 1) := by decide +kernel
theorem dX0_finish_21 : decode cX0_finish 21 = .ok (.iload_n 3, 1) := by decide +kernel
theorem dX0_finish_22 : decode cX0_finish 22 = .ok (.aload_n 0, 1) := by decide +kernel
theorem dX0_finish_23 : decode cX0_finish 23 = .ok (.getfield 22, 3) := by decide +kernel
theorem dX0_finish_26 : decode cX0_finish 26 = .ok (.getfield 49, 3) := by decide +kernel
theorem dX0_finish_29 : decode cX0_finish 29 = .ok (.if_icmp .ge 43, 3) := by decide +kernel
theorem dX0_finish_32 : decode cX0_finish 32 = .ok (.aload_n 2, 1) := by decide +kernel
theorem dX0_finish_33 : decode cX0_finish 33 = .ok (.getfield 65, 3) := by decide +kernel
theorem dX0_finish_36 : decode cX0_finish 36 = .ok (.iload_n 3, 1) := by decide +kernel
theorem dX0_finish_37 : decode cX0_finish 37 = .ok (.aload_n 0, 1) := by decide +kernel
theorem dX0_finish_38 : decode cX0_finish 38 = .ok (.getfield 18, 3) := by decide +kernel
theorem dX0_finish_41 : decode cX0_finish 41 = .ok (.iload_n 3, 1) := by decide +kernel
theorem dX0_finish_42 : decode cX0_finish 42 = .ok (.iaload, 1) := by decide +kernel
theorem dX0_finish_43 : decode cX0_finish 43 = .ok (.iconst (-1), 1) := by decide +kernel
theorem dX0_finish_44 : decode cX0_finish 44 = .ok (.if_icmp .ne 7, 3) := by decide +kernel
theorem dX0_finish_47 : decode cX0_finish 47 = .ok (.lconst 0, 1) := by decide +kernel
theorem dX0_finish_48 : decode cX0_finish 48 = .ok (.goto 17, 3) := by decide +kernel
theorem dX0_finish_51 : decode cX0_finish 51 = .ok (.aload_n 0, 1) := by decide +kernel
theorem dX0_finish_52 : decode cX0_finish 52 = .ok (.getfield 12, 3) := by decide +kernel
theorem dX0_finish_55 : decode cX0_finish 55 = .ok (.getfield 53, 3) := by decide +kernel
theorem dX0_finish_58 : decode cX0_finish 58 = .ok (.aload_n 0, 1) := by decide +kernel
theorem dX0_finish_59 : decode cX0_finish 59 = .ok (.getfield 18, 3) := by decide +kernel
theorem dX0_finish_62 : decode cX0_finish 62 = .ok (.iload_n 3, 1) := by decide +kernel
theorem dX0_finish_63 : decode cX0_finish 63 = .ok (.iaload, 1) := by decide +kernel
theorem dX0_finish_64 : decode cX0_finish 64 = .ok (.laload, 1) := by decide +kernel
theorem dX0_finish_65 : decode cX0_finish 65 = .ok (.lastore, 1) := by decide +kernel
theorem dX0_finish_66 : decode cX0_finish 66 = .ok (.iinc 3 1, 3) := by decide +kernel
theorem dX0_finish_69 : decode cX0_finish 69 = .ok (.goto (-48), 3) := by decide +kernel
theorem dX0_finish_72 : decode cX0_finish 72 = .ok (.return_, 1) := by decide +kernel
theorem dX0_lay_0 : decode cX0_lay 0 = .ok (.aload_n 0, 1) := by decide +kernel
theorem dX0_lay_1 : decode cX0_lay 1 = .ok (.getfield 12, 3) := by decide +kernel
theorem dX0_lay_4 : decode cX0_lay 4 = .ok (.invokevirtual 81, 3) := by decide +kernel
theorem dX0_lay_7 : decode cX0_lay 7 = .ok (.aload_n 0, 1) := by decide +kernel
theorem dX0_lay_8 : decode cX0_lay 8 = .ok (.iload_n 2, 1) := by decide +kernel
theorem dX0_lay_9 : decode cX0_lay 9 = .ok (.invokevirtual 84, 3) := by decide +kernel
theorem dX0_lay_12 : decode cX0_lay 12 = .ok (.istore 5, 2) := by decide +kernel
theorem dX0_lay_14 : decode cX0_lay 14 = .ok (.iconst 0, 1) := by decide +kernel
theorem dX0_lay_15 : decode cX0_lay 15 = .ok (.istore 6, 2) := by decide +kernel
theorem dX0_lay_17 : decode cX0_lay 17 = .ok (.iload 6, 2) := by decide +kernel
theorem dX0_lay_19 : decode cX0_lay 19 = .ok (.aload_n 0, 1) := by decide +kernel
theorem dX0_lay_20 : decode cX0_lay 20 = .ok (.getfield 22, 3) := by decide +kernel
theorem dX0_lay_23 : decode cX0_lay 23 = .ok (.getfield 49, 3) := by decide +kernel
theorem dX0_lay_26 : decode cX0_lay 26 = .ok (.if_icmp .ge 128, 3) := by decide +kernel
theorem dX0_lay_29 : decode cX0_lay 29 = .ok (.aload_n 0, 1) := by decide +kernel
theorem dX0_lay_30 : decode cX0_lay 30 = .ok (.getfield 18, 3) := by decide +kernel
theorem dX0_lay_33 : decode cX0_lay 33 = .ok (.iload 6, 2) := by decide +kernel
theorem dX0_lay_35 : decode cX0_lay 35 = .ok (.iaload, 1) := by decide +kernel
theorem dX0_lay_36 : decode cX0_lay 36 = .ok (.istore 7, 2) := by decide +kernel
theorem dX0_lay_38 : decode cX0_lay 38 = .ok (.iload 7, 2) := by decide +kernel
theorem dX0_lay_40 : decode cX0_lay 40 = .ok (.iconst (-1), 1) := by decide +kernel
theorem dX0_lay_41 : decode cX0_lay 41 = .ok (.if_icmp .eq 107, 3) := by decide +kernel
theorem dX0_lay_44 : decode cX0_lay 44 = .ok (.aload_n 0, 1) := by decide +kernel
theorem dX0_lay_45 : decode cX0_lay 45 = .ok (.getfield 12, 3) := by decide +kernel
theorem dX0_lay_48 : decode cX0_lay 48 = .ok (.getfield 87, 3) := by decide +kernel
theorem dX0_lay_51 : decode cX0_lay 51 = .ok (.iload 7, 2) := by decide +kernel
theorem dX0_lay_53 : decode cX0_lay 53 = .ok (.aaload, 1) := by decide +kernel
theorem dX0_lay_54 : decode cX0_lay 54 = .ok (.iload 7, 2) := by decide +kernel
theorem dX0_lay_56 : decode cX0_lay 56 = .ok (.iload 4, 2) := by decide +kernel
theorem dX0_lay_58 : decode cX0_lay 58 = .ok (.i2l, 1) := by decide +kernel
theorem dX0_lay_59 : decode cX0_lay 59 = .ok (.aload_n 0, 1) := by decide +kernel
theorem dX0_lay_60 : decode cX0_lay 60 = .ok (.getfield 22, 3) := by decide +kernel
theorem dX0_lay_63 : decode cX0_lay 63 = .ok (.iload 6, 2) := by decide +kernel
theorem dX0_lay_65 : decode cX0_lay 65 = .ok (.invokevirtual 77, 3) := by decide +kernel
theorem dX0_lay_68 : decode cX0_lay 68 = .ok (.i2l, 1) := by decide +kernel
theorem dX0_lay_69 : decode cX0_lay 69 = .ok (.lmul, 1) := by decide +kernel
theorem dX0_lay_70 : decode cX0_lay 70 = .ok (.lastore, 1) := by decide +kernel
theorem dX0_lay_71 : decode cX0_lay 71 = .ok (.iconst 0, 1) := by decide +kernel
theorem dX0_lay_72 : decode cX0_lay 72 = .ok (.istore 8, 2) := by decide +kernel
theorem dX0_lay_74 : decode cX0_lay 74 = .ok (.iload 8, 2) := by decide +kernel
theorem dX0_lay_76 : decode cX0_lay 76 = .ok (.aload_n 0, 1) := by decide +kernel
theorem dX0_lay_77 : decode cX0_lay 77 = .ok (.getfield 22, 3) := by decide +kernel
theorem dX0_lay_80 : decode cX0_lay 80 = .ok (.getfield 34, 3) := by decide +kernel
theorem dX0_lay_83 : decode cX0_lay 83 = .ok (.iload 6, 2) := by decide +kernel
theorem dX0_lay_85 : decode cX0_lay 85 = .ok (.iaload, 1) := by decide +kernel
theorem dX0_lay_86 : decode cX0_lay 86 = .ok (.if_icmp .ge 62, 3) := by decide +kernel
theorem dX0_lay_89 : decode cX0_lay 89 = .ok (.aload_n 0, 1) := by decide +kernel
theorem dX0_lay_90 : decode cX0_lay 90 = .ok (.getfield 18, 3) := by decide +kernel
theorem dX0_lay_93 : decode cX0_lay 93 = .ok (.aload_n 0, 1) := by decide +kernel
theorem dX0_lay_94 : decode cX0_lay 94 = .ok (.getfield 22, 3) := by decide +kernel
theorem dX0_lay_97 : decode cX0_lay 97 = .ok (.iload 6, 2) := by decide +kernel
theorem dX0_lay_99 : decode cX0_lay 99 = .ok (.iload 8, 2) := by decide +kernel
theorem dX0_lay_101 : decode cX0_lay 101 = .ok (.invokevirtual 41, 3) := by decide +kernel
theorem dX0_lay_104 : decode cX0_lay 104 = .ok (.iaload, 1) := by decide +kernel
theorem dX0_lay_105 : decode cX0_lay 105 = .ok (.istore 9, 2) := by decide +kernel
theorem dX0_lay_107 : decode cX0_lay 107 = .ok (.iload 9, 2) := by decide +kernel
theorem dX0_lay_109 : decode cX0_lay 109 = .ok (.iconst (-1), 1) := by decide +kernel
theorem dX0_lay_110 : decode cX0_lay 110 = .ok (.if_icmp .eq 32, 3) := by decide +kernel
theorem dX0_lay_113 : decode cX0_lay 113 = .ok (.aload_n 0, 1) := by decide +kernel
theorem dX0_lay_114 : decode cX0_lay 114 = .ok (.getfield 12, 3) := by decide +kernel
theorem dX0_lay_117 : decode cX0_lay 117 = .ok (.getfield 87, 3) := by decide +kernel
theorem dX0_lay_120 : decode cX0_lay 120 = .ok (.iload 7, 2) := by decide +kernel
theorem dX0_lay_122 : decode cX0_lay 122 = .ok (.aaload, 1) := by decide +kernel
theorem dX0_lay_123 : decode cX0_lay 123 = .ok (.iload 9, 2) := by decide +kernel
theorem dX0_lay_125 : decode cX0_lay 125 = .ok (.dup2, 1) := by decide +kernel
theorem dX0_lay_126 : decode cX0_lay 126 = .ok (.laload, 1) := by decide +kernel
theorem dX0_lay_127 : decode cX0_lay 127 = .ok (.iload_n 3, 1) := by decide +kernel
theorem dX0_lay_128 : decode cX0_lay 128 = .ok (.i2l, 1) := by decide +kernel
theorem dX0_lay_129 : decode cX0_lay 129 = .ok (.aload_n 0, 1) := by decide +kernel
theorem dX0_lay_130 : decode cX0_lay 130 = .ok (.aload_n 1, 1) := by decide +kernel
theorem dX0_lay_131 : decode cX0_lay 131 = .ok (.iload 6, 2) := by decide +kernel
theorem dX0_lay_133 : decode cX0_lay 133 = .ok (.iload 8, 2) := by decide +kernel
theorem dX0_lay_135 : decode cX0_lay 135 = .ok (.invokevirtual 37, 3) := by decide +kernel
theorem dX0_lay_138 : decode cX0_lay 138 = .ok (.i2l, 1) := by decide +kernel
theorem dX0_lay_139 : decode cX0_lay 139 = .ok (.lmul, 1) := by decide +kernel
theorem dX0_lay_140 : decode cX0_lay 140 = .ok (.lsub, 1) := by decide +kernel
theorem dX0_lay_141 : decode cX0_lay 141 = .ok (.lastore, 1) := by decide +kernel
theorem dX0_lay_142 : decode cX0_lay 142 = .ok (.iinc 8 1, 3) := by decide +kernel
theorem dX0_lay_145 : decode cX0_lay 145 = .ok (.goto (-71), 3) := by decide +kernel
theorem dX0_lay_148 : decode cX0_lay 148 = .ok (.iinc 6 1, 3) := by decide +kernel
theorem dX0_lay_151 : decode cX0_lay 151 = .ok (.goto (-134), 3) := by decide +kernel
theorem dX0_lay_154 : decode cX0_lay 154 = .ok (.iload 5, 2) := by decide +kernel
theorem dX0_lay_156 : decode cX0_lay 156 = .ok (.ireturn, 1) := by decide +kernel
theorem dX5_broughtToPay_0 : decode cX5_broughtToPay 0 = .ok (.aload_n 0, 1) := by decide +kernel
theorem dX5_broughtToPay_1 : decode cX5_broughtToPay 1 = .ok (.getfield 9, 3) := by decide +kernel
theorem dX5_broughtToPay_4 : decode cX5_broughtToPay 4 = .ok (.invokevirtual 32, 3) := by decide +kernel
theorem dX5_broughtToPay_7 : decode cX5_broughtToPay 7 = .ok (.istore_n 2, 1) := by decide +kernel
theorem dX5_broughtToPay_8 : decode cX5_broughtToPay 8 = .ok (.iconst (-1), 1) := by decide +kernel
theorem dX5_broughtToPay_9 : decode cX5_broughtToPay 9 = .ok (.istore_n 3, 1) := by decide +kernel
theorem dX5_broughtToPay_10 : decode cX5_broughtToPay 10 = .ok (.iconst 0, 1) := by decide +kernel
theorem dX5_broughtToPay_11 : decode cX5_broughtToPay 11 = .ok (.istore 4, 2) := by decide +kernel
theorem dX5_broughtToPay_13 : decode cX5_broughtToPay 13 = .ok (.iload 4, 2) := by decide +kernel
theorem dX5_broughtToPay_15 : decode cX5_broughtToPay 15 = .ok (.bipush 12, 2) := by decide +kernel
theorem dX5_broughtToPay_17 : decode cX5_broughtToPay 17 = .ok (.if_icmp .ge 68, 3) := by decide +kernel
theorem dX5_broughtToPay_20 : decode cX5_broughtToPay 20 = .ok (.iload_n 2, 1) := by decide +kernel
theorem dX5_broughtToPay_21 : decode cX5_broughtToPay 21 = .ok (.iload_n 3, 1) := by decide +kernel
theorem dX5_broughtToPay_22 : decode cX5_broughtToPay 22 = .ok (.if_icmp .eq 63, 3) := by decide +kernel
theorem dX5_broughtToPay_25 : decode cX5_broughtToPay 25 = .ok (.iload_n 2, 1) := by decide +kernel
theorem dX5_broughtToPay_26 : decode cX5_broughtToPay 26 = .ok (.istore_n 3, 1) := by decide +kernel
theorem dX5_broughtToPay_27 : decode cX5_broughtToPay 27 = .ok (.iconst 0, 1) := by decide +kernel
theorem dX5_broughtToPay_28 : decode cX5_broughtToPay 28 = .ok (.istore 5, 2) := by decide +kernel
theorem dX5_broughtToPay_30 : decode cX5_broughtToPay 30 = .ok (.iload 5, 2) := by decide +kernel
theorem dX5_broughtToPay_32 : decode cX5_broughtToPay 32 = .ok (.aload_n 0, 1) := by decide +kernel
theorem dX5_broughtToPay_33 : decode cX5_broughtToPay 33 = .ok (.getfield 9, 3) := by decide +kernel
theorem dX5_broughtToPay_36 : decode cX5_broughtToPay 36 = .ok (.getfield 15, 3) := by decide +kernel
theorem dX5_broughtToPay_39 : decode cX5_broughtToPay 39 = .ok (.if_icmp .ge 40, 3) := by decide +kernel
theorem dX5_broughtToPay_42 : decode cX5_broughtToPay 42 = .ok (.aload_n 0, 1) := by decide +kernel
theorem dX5_broughtToPay_43 : decode cX5_broughtToPay 43 = .ok (.getfield 9, 3) := by decide +kernel
theorem dX5_broughtToPay_46 : decode cX5_broughtToPay 46 = .ok (.getfield 25, 3) := by decide +kernel
theorem dX5_broughtToPay_49 : decode cX5_broughtToPay 49 = .ok (.iload 5, 2) := by decide +kernel
theorem dX5_broughtToPay_51 : decode cX5_broughtToPay 51 = .ok (.iaload, 1) := by decide +kernel
theorem dX5_broughtToPay_52 : decode cX5_broughtToPay 52 = .ok (.ifCond .eq 21, 3) := by decide +kernel
theorem dX5_broughtToPay_55 : decode cX5_broughtToPay 55 = .ok (.aload_n 0, 1) := by decide +kernel
theorem dX5_broughtToPay_56 : decode cX5_broughtToPay 56 = .ok (.iload 5, 2) := by decide +kernel
theorem dX5_broughtToPay_58 : decode cX5_broughtToPay 58 = .ok (.iload_n 2, 1) := by decide +kernel
theorem dX5_broughtToPay_59 : decode cX5_broughtToPay 59 = .ok (.iload_n 1, 1) := by decide +kernel
theorem dX5_broughtToPay_60 : decode cX5_broughtToPay 60 = .ok (.invokevirtual 36, 3) := by decide +kernel
theorem dX5_broughtToPay_63 : decode cX5_broughtToPay 63 = .ok (.ifCond .eq 10, 3) := by decide +kernel
theorem dX5_broughtToPay_66 : decode cX5_broughtToPay 66 = .ok (.iload_n 2, 1) := by decide +kernel
theorem dX5_broughtToPay_67 : decode cX5_broughtToPay 67 = .ok (.iconst 1, 1) := by decide +kernel
theorem dX5_broughtToPay_68 : decode cX5_broughtToPay 68 = .ok (.iload 5, 2) := by decide +kernel
theorem dX5_broughtToPay_70 : decode cX5_broughtToPay 70 = .ok (.ishl, 1) := by decide +kernel
theorem dX5_broughtToPay_71 : decode cX5_broughtToPay 71 = .ok (.ior, 1) := by decide +kernel
theorem dX5_broughtToPay_72 : decode cX5_broughtToPay 72 = .ok (.istore_n 2, 1) := by decide +kernel
theorem dX5_broughtToPay_73 : decode cX5_broughtToPay 73 = .ok (.iinc 5 1, 3) := by decide +kernel
theorem dX5_broughtToPay_76 : decode cX5_broughtToPay 76 = .ok (.goto (-46), 3) := by decide +kernel
theorem dX5_broughtToPay_79 : decode cX5_broughtToPay 79 = .ok (.iinc 4 1, 3) := by decide +kernel
theorem dX5_broughtToPay_82 : decode cX5_broughtToPay 82 = .ok (.goto (-69), 3) := by decide +kernel
theorem dX5_broughtToPay_85 : decode cX5_broughtToPay 85 = .ok (.iload_n 2, 1) := by decide +kernel
theorem dX5_broughtToPay_86 : decode cX5_broughtToPay 86 = .ok (.ireturn, 1) := by decide +kernel
theorem dX5_isBroughtToPay_0 : decode cX5_isBroughtToPay 0 = .ok (.aload_n 0, 1) := by decide +kernel
theorem dX5_isBroughtToPay_1 : decode cX5_isBroughtToPay 1 = .ok (.getfield 9, 3) := by decide +kernel
theorem dX5_isBroughtToPay_4 : decode cX5_isBroughtToPay 4 = .ok (.iload_n 1, 1) := by decide +kernel
theorem dX5_isBroughtToPay_5 : decode cX5_isBroughtToPay 5 = .ok (.invokevirtual 21, 3) := by decide +kernel
theorem dX5_isBroughtToPay_8 : decode cX5_isBroughtToPay 8 = .ok (.istore 4, 2) := by decide +kernel
theorem dX5_isBroughtToPay_10 : decode cX5_isBroughtToPay 10 = .ok (.aload_n 0, 1) := by decide +kernel
theorem dX5_isBroughtToPay_11 : decode cX5_isBroughtToPay 11 = .ok (.getfield 9, 3) := by decide +kernel
theorem dX5_isBroughtToPay_14 : decode cX5_isBroughtToPay 14 = .ok (.getfield 25, 3) := by decide +kernel
theorem dX5_isBroughtToPay_17 : decode cX5_isBroughtToPay 17 = .ok (.iload_n 1, 1) := by decide +kernel
theorem dX5_isBroughtToPay_18 : decode cX5_isBroughtToPay 18 = .ok (.iaload, 1) := by decide +kernel
theorem dX5_isBroughtToPay_19 : decode cX5_isBroughtToPay 19 = .ok (.lookupswitch 53 #[(1, 25), (2, 38)], 25) := by decide +kernel
theorem dX5_isBroughtToPay_44 : decode cX5_isBroughtToPay 44 = .ok (.iload 4, 2) := by decide +kernel
theorem dX5_isBroughtToPay_46 : decode cX5_isBroughtToPay 46 = .ok (.iload_n 2, 1) := by decide +kernel
theorem dX5_isBroughtToPay_47 : decode cX5_isBroughtToPay 47 = .ok (.iand, 1) := by decide +kernel
theorem dX5_isBroughtToPay_48 : decode cX5_isBroughtToPay 48 = .ok (.ifCond .eq 7, 3) := by decide +kernel
theorem dX5_isBroughtToPay_51 : decode cX5_isBroughtToPay 51 = .ok (.iconst 1, 1) := by decide +kernel
theorem dX5_isBroughtToPay_52 : decode cX5_isBroughtToPay 52 = .ok (.goto 4, 3) := by decide +kernel
theorem dX5_isBroughtToPay_55 : decode cX5_isBroughtToPay 55 = .ok (.iconst 0, 1) := by decide +kernel
theorem dX5_isBroughtToPay_56 : decode cX5_isBroughtToPay 56 = .ok (.ireturn, 1) := by decide +kernel
theorem dX5_isBroughtToPay_57 : decode cX5_isBroughtToPay 57 = .ok (.iload 4, 2) := by decide +kernel
theorem dX5_isBroughtToPay_59 : decode cX5_isBroughtToPay 59 = .ok (.iload_n 2, 1) := by decide +kernel
theorem dX5_isBroughtToPay_60 : decode cX5_isBroughtToPay 60 = .ok (.iconst (-1), 1) := by decide +kernel
theorem dX5_isBroughtToPay_61 : decode cX5_isBroughtToPay 61 = .ok (.ixor, 1) := by decide +kernel
theorem dX5_isBroughtToPay_62 : decode cX5_isBroughtToPay 62 = .ok (.iand, 1) := by decide +kernel
theorem dX5_isBroughtToPay_63 : decode cX5_isBroughtToPay 63 = .ok (.ifCond .ne 7, 3) := by decide +kernel
theorem dX5_isBroughtToPay_66 : decode cX5_isBroughtToPay 66 = .ok (.iconst 1, 1) := by decide +kernel
theorem dX5_isBroughtToPay_67 : decode cX5_isBroughtToPay 67 = .ok (.goto 4, 3) := by decide +kernel
theorem dX5_isBroughtToPay_70 : decode cX5_isBroughtToPay 70 = .ok (.iconst 0, 1) := by decide +kernel
theorem dX5_isBroughtToPay_71 : decode cX5_isBroughtToPay 71 = .ok (.ireturn, 1) := by decide +kernel
theorem dX5_isBroughtToPay_72 : decode cX5_isBroughtToPay 72 = .ok (.iload 4, 2) := by decide +kernel
theorem dX5_isBroughtToPay_74 : decode cX5_isBroughtToPay 74 = .ok (.iload_n 2, 1) := by decide +kernel
theorem dX5_isBroughtToPay_75 : decode cX5_isBroughtToPay 75 = .ok (.iand, 1) := by decide +kernel
theorem dX5_isBroughtToPay_76 : decode cX5_isBroughtToPay 76 = .ok (.ifCond .eq 16, 3) := by decide +kernel
theorem dX5_isBroughtToPay_79 : decode cX5_isBroughtToPay 79 = .ok (.iload 4, 2) := by decide +kernel
theorem dX5_isBroughtToPay_81 : decode cX5_isBroughtToPay 81 = .ok (.iload_n 3, 1) := by decide +kernel
theorem dX5_isBroughtToPay_82 : decode cX5_isBroughtToPay 82 = .ok (.iconst (-1), 1) := by decide +kernel
theorem dX5_isBroughtToPay_83 : decode cX5_isBroughtToPay 83 = .ok (.ixor, 1) := by decide +kernel
theorem dX5_isBroughtToPay_84 : decode cX5_isBroughtToPay 84 = .ok (.iand, 1) := by decide +kernel
theorem dX5_isBroughtToPay_85 : decode cX5_isBroughtToPay 85 = .ok (.ifCond .ne 7, 3) := by decide +kernel
theorem dX5_isBroughtToPay_88 : decode cX5_isBroughtToPay 88 = .ok (.iconst 1, 1) := by decide +kernel
theorem dX5_isBroughtToPay_89 : decode cX5_isBroughtToPay 89 = .ok (.goto 4, 3) := by decide +kernel
theorem dX5_isBroughtToPay_92 : decode cX5_isBroughtToPay 92 = .ok (.iconst 0, 1) := by decide +kernel
theorem dX5_isBroughtToPay_93 : decode cX5_isBroughtToPay 93 = .ok (.ireturn, 1) := by decide +kernel
theorem dX5_movesToPay_0 : decode cX5_movesToPay 0 = .ok (.aload_n 0, 1) := by decide +kernel
theorem dX5_movesToPay_1 : decode cX5_movesToPay 1 = .ok (.getfield 9, 3) := by decide +kernel
theorem dX5_movesToPay_4 : decode cX5_movesToPay 4 = .ok (.invokevirtual 32, 3) := by decide +kernel
theorem dX5_movesToPay_7 : decode cX5_movesToPay 7 = .ok (.istore_n 2, 1) := by decide +kernel
theorem dX5_movesToPay_8 : decode cX5_movesToPay 8 = .ok (.iconst 1, 1) := by decide +kernel
theorem dX5_movesToPay_9 : decode cX5_movesToPay 9 = .ok (.iload_n 1, 1) := by decide +kernel
theorem dX5_movesToPay_10 : decode cX5_movesToPay 10 = .ok (.ishl, 1) := by decide +kernel
theorem dX5_movesToPay_11 : decode cX5_movesToPay 11 = .ok (.istore_n 3, 1) := by decide +kernel
theorem dX5_movesToPay_12 : decode cX5_movesToPay 12 = .ok (.iconst 0, 1) := by decide +kernel
theorem dX5_movesToPay_13 : decode cX5_movesToPay 13 = .ok (.istore 4, 2) := by decide +kernel
theorem dX5_movesToPay_15 : decode cX5_movesToPay 15 = .ok (.iload 4, 2) := by decide +kernel
theorem dX5_movesToPay_17 : decode cX5_movesToPay 17 = .ok (.bipush 12, 2) := by decide +kernel
theorem dX5_movesToPay_19 : decode cX5_movesToPay 19 = .ok (.if_icmp .ge 64, 3) := by decide +kernel
theorem dX5_movesToPay_22 : decode cX5_movesToPay 22 = .ok (.iload_n 3, 1) := by decide +kernel
theorem dX5_movesToPay_23 : decode cX5_movesToPay 23 = .ok (.iload_n 2, 1) := by decide +kernel
theorem dX5_movesToPay_24 : decode cX5_movesToPay 24 = .ok (.iand, 1) := by decide +kernel
theorem dX5_movesToPay_25 : decode cX5_movesToPay 25 = .ok (.ifCond .eq 6, 3) := by decide +kernel
theorem dX5_movesToPay_28 : decode cX5_movesToPay 28 = .ok (.iload 4, 2) := by decide +kernel
theorem dX5_movesToPay_30 : decode cX5_movesToPay 30 = .ok (.ireturn, 1) := by decide +kernel
theorem dX5_movesToPay_31 : decode cX5_movesToPay 31 = .ok (.iload_n 3, 1) := by decide +kernel
theorem dX5_movesToPay_32 : decode cX5_movesToPay 32 = .ok (.istore 5, 2) := by decide +kernel
theorem dX5_movesToPay_34 : decode cX5_movesToPay 34 = .ok (.iconst 0, 1) := by decide +kernel
theorem dX5_movesToPay_35 : decode cX5_movesToPay 35 = .ok (.istore 6, 2) := by decide +kernel
theorem dX5_movesToPay_37 : decode cX5_movesToPay 37 = .ok (.iload 6, 2) := by decide +kernel
theorem dX5_movesToPay_39 : decode cX5_movesToPay 39 = .ok (.aload_n 0, 1) := by decide +kernel
theorem dX5_movesToPay_40 : decode cX5_movesToPay 40 = .ok (.getfield 9, 3) := by decide +kernel
theorem dX5_movesToPay_43 : decode cX5_movesToPay 43 = .ok (.getfield 15, 3) := by decide +kernel
theorem dX5_movesToPay_46 : decode cX5_movesToPay 46 = .ok (.if_icmp .ge 31, 3) := by decide +kernel
theorem dX5_movesToPay_49 : decode cX5_movesToPay 49 = .ok (.iload 5, 2) := by decide +kernel
theorem dX5_movesToPay_51 : decode cX5_movesToPay 51 = .ok (.iload 6, 2) := by decide +kernel
theorem dX5_movesToPay_53 : decode cX5_movesToPay 53 = .ok (.ishr, 1) := by decide +kernel
theorem dX5_movesToPay_54 : decode cX5_movesToPay 54 = .ok (.iconst 1, 1) := by decide +kernel
theorem dX5_movesToPay_55 : decode cX5_movesToPay 55 = .ok (.iand, 1) := by decide +kernel
theorem dX5_movesToPay_56 : decode cX5_movesToPay 56 = .ok (.ifCond .eq 15, 3) := by decide +kernel
theorem dX5_movesToPay_59 : decode cX5_movesToPay 59 = .ok (.iload_n 3, 1) := by decide +kernel
theorem dX5_movesToPay_60 : decode cX5_movesToPay 60 = .ok (.aload_n 0, 1) := by decide +kernel
theorem dX5_movesToPay_61 : decode cX5_movesToPay 61 = .ok (.getfield 9, 3) := by decide +kernel
theorem dX5_movesToPay_64 : decode cX5_movesToPay 64 = .ok (.iload 6, 2) := by decide +kernel
theorem dX5_movesToPay_66 : decode cX5_movesToPay 66 = .ok (.invokevirtual 21, 3) := by decide +kernel
theorem dX5_movesToPay_69 : decode cX5_movesToPay 69 = .ok (.ior, 1) := by decide +kernel
theorem dX5_movesToPay_70 : decode cX5_movesToPay 70 = .ok (.istore_n 3, 1) := by decide +kernel
theorem dX5_movesToPay_71 : decode cX5_movesToPay 71 = .ok (.iinc 6 1, 3) := by decide +kernel
theorem dX5_movesToPay_74 : decode cX5_movesToPay 74 = .ok (.goto (-37), 3) := by decide +kernel
theorem dX5_movesToPay_77 : decode cX5_movesToPay 77 = .ok (.iinc 4 1, 3) := by decide +kernel
theorem dX5_movesToPay_80 : decode cX5_movesToPay 80 = .ok (.goto (-65), 3) := by decide +kernel
theorem dX5_movesToPay_83 : decode cX5_movesToPay 83 = .ok (.iconst (-1), 1) := by decide +kernel
theorem dX5_movesToPay_84 : decode cX5_movesToPay 84 = .ok (.ireturn, 1) := by decide +kernel
theorem dX5_surelyPaid_0 : decode cX5_surelyPaid 0 = .ok (.iconst 1, 1) := by decide +kernel
theorem dX5_surelyPaid_1 : decode cX5_surelyPaid 1 = .ok (.aload_n 0, 1) := by decide +kernel
theorem dX5_surelyPaid_2 : decode cX5_surelyPaid 2 = .ok (.getfield 9, 3) := by decide +kernel
theorem dX5_surelyPaid_5 : decode cX5_surelyPaid 5 = .ok (.getfield 15, 3) := by decide +kernel
theorem dX5_surelyPaid_8 : decode cX5_surelyPaid 8 = .ok (.ishl, 1) := by decide +kernel
theorem dX5_surelyPaid_9 : decode cX5_surelyPaid 9 = .ok (.iconst 1, 1) := by decide +kernel
theorem dX5_surelyPaid_10 : decode cX5_surelyPaid 10 = .ok (.isub, 1) := by decide +kernel
theorem dX5_surelyPaid_11 : decode cX5_surelyPaid 11 = .ok (.istore_n 1, 1) := by decide +kernel
theorem dX5_surelyPaid_12 : decode cX5_surelyPaid 12 = .ok (.iconst (-1), 1) := by decide +kernel
theorem dX5_surelyPaid_13 : decode cX5_surelyPaid 13 = .ok (.istore_n 2, 1) := by decide +kernel
theorem dX5_surelyPaid_14 : decode cX5_surelyPaid 14 = .ok (.iconst 0, 1) := by decide +kernel
theorem dX5_surelyPaid_15 : decode cX5_surelyPaid 15 = .ok (.istore_n 3, 1) := by decide +kernel
theorem dX5_surelyPaid_16 : decode cX5_surelyPaid 16 = .ok (.iload_n 3, 1) := by decide +kernel
theorem dX5_surelyPaid_17 : decode cX5_surelyPaid 17 = .ok (.bipush 12, 2) := by decide +kernel
theorem dX5_surelyPaid_19 : decode cX5_surelyPaid 19 = .ok (.if_icmp .ge 22, 3) := by decide +kernel
theorem dX5_surelyPaid_22 : decode cX5_surelyPaid 22 = .ok (.iload_n 1, 1) := by decide +kernel
theorem dX5_surelyPaid_23 : decode cX5_surelyPaid 23 = .ok (.iload_n 2, 1) := by decide +kernel
theorem dX5_surelyPaid_24 : decode cX5_surelyPaid 24 = .ok (.if_icmp .eq 17, 3) := by decide +kernel
theorem dX5_surelyPaid_27 : decode cX5_surelyPaid 27 = .ok (.iload_n 1, 1) := by decide +kernel
theorem dX5_surelyPaid_28 : decode cX5_surelyPaid 28 = .ok (.istore_n 2, 1) := by decide +kernel
theorem dX5_surelyPaid_29 : decode cX5_surelyPaid 29 = .ok (.aload_n 0, 1) := by decide +kernel
theorem dX5_surelyPaid_30 : decode cX5_surelyPaid 30 = .ok (.iload_n 1, 1) := by decide +kernel
theorem dX5_surelyPaid_31 : decode cX5_surelyPaid 31 = .ok (.invokevirtual 29, 3) := by decide +kernel
theorem dX5_surelyPaid_34 : decode cX5_surelyPaid 34 = .ok (.istore_n 1, 1) := by decide +kernel
theorem dX5_surelyPaid_35 : decode cX5_surelyPaid 35 = .ok (.iinc 3 1, 3) := by decide +kernel
theorem dX5_surelyPaid_38 : decode cX5_surelyPaid 38 = .ok (.goto (-22), 3) := by decide +kernel
theorem dX5_surelyPaid_41 : decode cX5_surelyPaid 41 = .ok (.iload_n 1, 1) := by decide +kernel
theorem dX5_surelyPaid_42 : decode cX5_surelyPaid 42 = .ok (.ireturn, 1) := by decide +kernel
set_option maxHeartbeats 4000000 in
set_option maxRecDepth 100000 in
theorem c_X5_isBroughtToPay (l : Launch) (D : va_G) (g : Nat → ClassId) (rg : Nat) (p0 : Int32) (p1 : Int32) (p2 : Int32) (n : Nat) (n_nodes : Int32) (n_kind : Nat) (n_pay : Nat) (n_name : Nat) (n_ways : Nat) (n_held : Nat) (n_targets : Nat) (n_weights : Nat) (n_fkind : Nat → Int32) (n_fpay : Nat → Int32) (n_fways : Nat → Int32) (n_fheld : Nat → Int32) (n_ftargets : Nat → Int32) (h_p0 : 0 ≤ (p0 : Int32).toInt ∧ (p0 : Int32).toInt ≤ 11) (h_n_nodes : 0 ≤ (n_nodes : Int32).toInt ∧ (n_nodes : Int32).toInt ≤ 12) (h_n_fkind : ∀ j : Nat, 0 ≤ (n_fkind j).toInt ∧ (n_fkind j).toInt ≤ 3) (h_n_fways : ∀ j : Nat, 0 ≤ (n_fways j).toInt ∧ (n_fways j).toInt ≤ 3) (h_n_fheld : ∀ j : Nat, (-1) ≤ (n_fheld j).toInt ∧ (n_fheld j).toInt ≤ 2) (h_n_ftargets : ∀ j : Nat, 0 ≤ (n_ftargets j).toInt ∧ (n_ftargets j).toInt ≤ 11) : Met l yX5_isBroughtToPay (.code yX5_isBroughtToPay cX5_isBroughtToPay 5 (some .boolean) :: wsL_law) ({ frames := 2, cells := 0, slots := 0, locals := 45 }) (va_Pc [.ref rg, .int p0, .int p1, .int p2] (fun U => va_P D vwCl [(wO5 rg n), (wO2 n n_nodes n_kind n_pay n_name n_ways n_held n_targets n_weights), (wI g n_kind 0 12 n_fkind), (wI g n_pay 0 12 n_fpay), (wI g n_ways 0 12 n_fways), (wI g n_held 0 12 n_fheld), (wI g n_targets 0 36 n_ftargets)] U.heap ∧ va_K D vwCl (TY g) U)) (vp_Si (fun r => 0 ≤ (r : Int32).toInt ∧ (r : Int32).toInt ≤ 1)) 0 0 (fun _ => False) := by
  refine Met.ofW (cc := cX5_isBroughtToPay) (maxL := 5) (ret := (some .boolean)) (by decide) rfl ?_
  intro p e s m args below meth c s₁ B hml hv
  obtain ⟨ha, hP, hK⟩ := hv
  have hx := B.exec
  have hb := B.bytes
  have hr := B.returns
  have hts0 := atoms_spec (ws := (.code yX5_isBroughtToPay cX5_isBroughtToPay 5 (some .boolean) :: wsL_law)) B.pre
  have hts : ∀ w ∈ wsL_law, w.before args s = true := fun w h => hts0 w (List.mem_cons_of_mem _ h)
  have hown : s.vm.findClass RX5 = some m.cls := findClass_of_methodNamed B.named
  have hlocks := B.notSynchronized
  have hP : va_P D vwCl [(wO5 rg n), (wO2 n n_nodes n_kind n_pay n_name n_ways n_held n_targets n_weights), (wI g n_kind 0 12 n_fkind), (wI g n_pay 0 12 n_fpay), (wI g n_ways 0 12 n_fways), (wI g n_held 0 12 n_fheld), (wI g n_targets 0 36 n_ftargets)] s.heap := hP
  refine W.eq (g2 := entryFrame m ([.ref rg, .int p0, .int p1, .int p2] : List Value).toArray 5) (by rw [ha]) ?_
  have hl := lv_entry ([.ref rg, .int p0, .int p1, .int p2]) (n := 5) (Nat.le_of_ble_eq_true rfl)
  rw [lg_entry_eq]
  generalize (lg_sl ([.ref rg, .int p0, .int p1, .int p2]) ++ List.replicate (5 - (lg_sl ([.ref rg, .int p0, .int p1, .int p2])).length) Slot.unset).toArray = ls at hl ⊢
  have hl : lv_has ls 5 [(0, .ref rg), (1, .int p0), (2, .int p1), (3, .int p2)] := hl
  refine lv_aload_n hx hb dX5_isBroughtToPay_0 rfl (lv_at hl 0 rfl) ?_
  refine va_get (D := D) (ci := 5) (v := .ref n) (C := RX5) (T := TX5) (N := 1) hx hb hts inlX5 hown hK hP 0 rfl rfl 0 (by decide) (hts (Cond.fieldLink RX5 9 "ChanceRings$Regions" "net" "LChanceRings$Net;") qw_456) (fun _ h9 => h9) rfl dX5_isBroughtToPay_1 ?_
  refine lv_iload_n hx hb dX5_isBroughtToPay_4 rfl (lv_at hl 1 rfl) ?_
  have hPc := hP.sub (ws' := [(wO2 n n_nodes n_kind n_pay n_name n_ways n_held n_targets n_weights), (wI g n_ways 0 12 n_fways), (wI g n_held 0 12 n_fheld), (wI g n_targets 0 36 n_ftargets)]) [1, 4, 5, 6] rfl
  refine vp_callSi (va_Run.run (va_runV (As := [.int p0]) (rest := []) ⟨hx, hb, hml, hown, hts⟩ (c_X2_nextNodes l D g n p0 n_nodes n_kind n_pay n_name n_ways n_held n_targets n_weights n_fways n_fheld n_ftargets (tr_w h_p0 (by decide) (by decide)) (tr_w h_n_nodes (by decide) (by decide)) (tr_wa h_n_fways (by decide) (by decide)) (tr_wa h_n_fheld (by decide) (by decide)) (tr_wa h_n_ftargets (by decide) (by decide))) (cwV 1 hts (tz_gV qw_458 qw_459 qw_460 qw_322 qw_461) rfl rfl rfl (by decide +kernel) ⟨Nat.le_of_ble_eq_true rfl, Nat.le_of_ble_eq_true rfl⟩) ⟨tz_blS, va_recv hK hPc (ci := 2) (q0 := 0) rfl rfl, tz_preS hPc hK⟩ rfl rfl hl.1 rfl (lv_room (Nat.le_of_ble_eq_true rfl)) dX5_isBroughtToPay_5 ⟨Nat.le_of_ble_eq_true rfl, Nat.le_of_ble_eq_true rfl⟩)) (fun r_63544 hw => ?_)
  refine lv_istore (lv' := [(4, .int r_63544), (0, .ref rg), (1, .int p0), (2, .int p1), (3, .int p2)]) hx hb dX5_isBroughtToPay_8 hl (by decide) rfl (fun ls hl => ?_)
  refine lv_aload_n hx hb dX5_isBroughtToPay_10 rfl (lv_at hl 1 rfl) ?_
  refine va_get (D := D) (ci := 5) (v := .ref n) (C := RX5) (T := TX5) (N := 1) hx hb hts inlX5 hown hK hP 0 rfl rfl 0 (by decide) (hts (Cond.fieldLink RX5 9 "ChanceRings$Regions" "net" "LChanceRings$Net;") qw_456) (fun _ h9 => h9) rfl dX5_isBroughtToPay_11 ?_
  refine va_get (D := D) (ci := 2) (v := .ref n_kind) (C := RX2) (T := TX2) (N := 8) hx hb hts inlX2 hown hK hP 1 rfl rfl 1 (by decide) (hts (Cond.fieldLink RX5 25 "ChanceRings$Net" "kind" "[I") qw_462) (fun _ h9 => h9) rfl dX5_isBroughtToPay_14 ?_
  refine lv_iload_n hx hb dX5_isBroughtToPay_17 rfl (lv_at hl 2 rfl) ?_
  refine va_iald hx hb hK hP 2 0 rfl rfl (tr_in h_p0 (by decide) (by decide)) dX5_isBroughtToPay_18 ?_
  refine lv_topi (fun v_63545 v_63545_e => ?_)
  have h_v_63545 : 0 ≤ (v_63545 : Int32).toInt ∧ (v_63545 : Int32).toInt ≤ 3 := by rw [v_63545_e]; exact h_n_fkind _
  by_cases e_63546 : v_63545 = 0
  · skip
    have h_63547 : 0 ≤ (v_63545 : Int32).toInt ∧ (v_63545 : Int32).toInt ≤ 0 := by rw [e_63546]; exact ⟨by decide, by decide⟩
    refine lv_lookup (off := 53) (tgt := 72) hx hb dX5_isBroughtToPay_19 (by decide) (by rw [e_63546]; decide) (by decide) ?_
    refine lv_iload hx hb dX5_isBroughtToPay_72 (lv_at hl 0 rfl) ?_
    refine lv_iload_n hx hb dX5_isBroughtToPay_74 rfl (lv_at hl 3 rfl) ?_
    refine lv_iand hx hb dX5_isBroughtToPay_75 ?_
    refine lv_topi (fun v_63548 v_63548_e => ?_)
    refine lv_if_eq (tgt := 92) hx hb dX5_isBroughtToPay_76 (by decide) (fun c_63549 => ?_) (fun c_63549 => ?_)
    · skip
      have h_63550 : 0 ≤ (v_63548 : Int32).toInt ∧ (v_63548 : Int32).toInt ≤ 0 := by rw [c_63549]; exact ⟨by decide, by decide⟩
      refine lv_iconst (v := 0) hx hb dX5_isBroughtToPay_92 (by decide) ?_
      exact W.zret (v := 0) hx hb hr (by decide) (fun t ht hW => ⟨0, rfl, (⟨by decide, by decide⟩ : 0 ≤ (0 : Int32).toInt ∧ (0 : Int32).toInt ≤ 1), ht⟩) (fun _ h => nomatch h) dX5_isBroughtToPay_93
    · skip
      refine lv_iload hx hb dX5_isBroughtToPay_79 (lv_at hl 0 rfl) ?_
      refine lv_iload_n hx hb dX5_isBroughtToPay_81 rfl (lv_at hl 4 rfl) ?_
      refine lv_iconst (v := (-1)) hx hb dX5_isBroughtToPay_82 (by decide) ?_
      refine lv_ixor hx hb dX5_isBroughtToPay_83 ?_
      refine lv_topi (fun v_63551 v_63551_e => ?_)
      refine lv_iand hx hb dX5_isBroughtToPay_84 ?_
      refine lv_topi (fun v_63552 v_63552_e => ?_)
      refine lv_if_ne (tgt := 92) hx hb dX5_isBroughtToPay_85 (by decide) (fun c_63553 => ?_) (fun c_63553 => ?_)
      · skip
        refine lv_iconst (v := 0) hx hb dX5_isBroughtToPay_92 (by decide) ?_
        exact W.zret (v := 0) hx hb hr (by decide) (fun t ht hW => ⟨0, rfl, (⟨by decide, by decide⟩ : 0 ≤ (0 : Int32).toInt ∧ (0 : Int32).toInt ≤ 1), ht⟩) (fun _ h => nomatch h) dX5_isBroughtToPay_93
      · skip
        have h_63554 : 0 ≤ (v_63552 : Int32).toInt ∧ (v_63552 : Int32).toInt ≤ 0 := by rw [c_63553]; exact ⟨by decide, by decide⟩
        refine lv_iconst (v := 1) hx hb dX5_isBroughtToPay_88 (by decide) ?_
        refine lv_goto (tgt := 93) hx hb dX5_isBroughtToPay_89 (by decide) ?_
        exact W.zret (v := 1) hx hb hr (by decide) (fun t ht hW => ⟨1, rfl, (⟨by decide, by decide⟩ : 0 ≤ (1 : Int32).toInt ∧ (1 : Int32).toInt ≤ 1), ht⟩) (fun _ h => nomatch h) dX5_isBroughtToPay_93
  · have e_63546_n : ¬ (v_63545 : Int32).toInt = 0 := fun q => e_63546 (Int32.toInt_inj.mp (q.trans (by decide)))
    by_cases e_63555 : v_63545 = 1
    · skip
      have h_63556 : 1 ≤ (v_63545 : Int32).toInt ∧ (v_63545 : Int32).toInt ≤ 1 := by rw [e_63555]; exact ⟨by decide, by decide⟩
      refine lv_lookup (off := 25) (tgt := 44) hx hb dX5_isBroughtToPay_19 (by decide) (by rw [e_63555]; decide) (by decide) ?_
      refine lv_iload hx hb dX5_isBroughtToPay_44 (lv_at hl 0 rfl) ?_
      refine lv_iload_n hx hb dX5_isBroughtToPay_46 rfl (lv_at hl 3 rfl) ?_
      refine lv_iand hx hb dX5_isBroughtToPay_47 ?_
      refine lv_topi (fun v_63557 v_63557_e => ?_)
      refine lv_if_eq (tgt := 55) hx hb dX5_isBroughtToPay_48 (by decide) (fun c_63558 => ?_) (fun c_63558 => ?_)
      · skip
        have h_63559 : 0 ≤ (v_63557 : Int32).toInt ∧ (v_63557 : Int32).toInt ≤ 0 := by rw [c_63558]; exact ⟨by decide, by decide⟩
        refine lv_iconst (v := 0) hx hb dX5_isBroughtToPay_55 (by decide) ?_
        exact W.zret (v := 0) hx hb hr (by decide) (fun t ht hW => ⟨0, rfl, (⟨by decide, by decide⟩ : 0 ≤ (0 : Int32).toInt ∧ (0 : Int32).toInt ≤ 1), ht⟩) (fun _ h => nomatch h) dX5_isBroughtToPay_56
      · skip
        refine lv_iconst (v := 1) hx hb dX5_isBroughtToPay_51 (by decide) ?_
        refine lv_goto (tgt := 56) hx hb dX5_isBroughtToPay_52 (by decide) ?_
        exact W.zret (v := 1) hx hb hr (by decide) (fun t ht hW => ⟨1, rfl, (⟨by decide, by decide⟩ : 0 ≤ (1 : Int32).toInt ∧ (1 : Int32).toInt ≤ 1), ht⟩) (fun _ h => nomatch h) dX5_isBroughtToPay_56
    · have e_63555_n : ¬ (v_63545 : Int32).toInt = 1 := fun q => e_63555 (Int32.toInt_inj.mp (q.trans (by decide)))
      by_cases e_63560 : v_63545 = 2
      · skip
        have h_63561 : 2 ≤ (v_63545 : Int32).toInt ∧ (v_63545 : Int32).toInt ≤ 2 := by rw [e_63560]; exact ⟨by decide, by decide⟩
        refine lv_lookup (off := 38) (tgt := 57) hx hb dX5_isBroughtToPay_19 (by decide) (by rw [e_63560]; decide) (by decide) ?_
        refine lv_iload hx hb dX5_isBroughtToPay_57 (lv_at hl 0 rfl) ?_
        refine lv_iload_n hx hb dX5_isBroughtToPay_59 rfl (lv_at hl 3 rfl) ?_
        refine lv_iconst (v := (-1)) hx hb dX5_isBroughtToPay_60 (by decide) ?_
        refine lv_ixor hx hb dX5_isBroughtToPay_61 ?_
        refine lv_topi (fun v_63562 v_63562_e => ?_)
        refine lv_iand hx hb dX5_isBroughtToPay_62 ?_
        refine lv_topi (fun v_63563 v_63563_e => ?_)
        refine lv_if_ne (tgt := 70) hx hb dX5_isBroughtToPay_63 (by decide) (fun c_63564 => ?_) (fun c_63564 => ?_)
        · skip
          refine lv_iconst (v := 0) hx hb dX5_isBroughtToPay_70 (by decide) ?_
          exact W.zret (v := 0) hx hb hr (by decide) (fun t ht hW => ⟨0, rfl, (⟨by decide, by decide⟩ : 0 ≤ (0 : Int32).toInt ∧ (0 : Int32).toInt ≤ 1), ht⟩) (fun _ h => nomatch h) dX5_isBroughtToPay_71
        · skip
          have h_63565 : 0 ≤ (v_63563 : Int32).toInt ∧ (v_63563 : Int32).toInt ≤ 0 := by rw [c_63564]; exact ⟨by decide, by decide⟩
          refine lv_iconst (v := 1) hx hb dX5_isBroughtToPay_66 (by decide) ?_
          refine lv_goto (tgt := 71) hx hb dX5_isBroughtToPay_67 (by decide) ?_
          exact W.zret (v := 1) hx hb hr (by decide) (fun t ht hW => ⟨1, rfl, (⟨by decide, by decide⟩ : 0 ≤ (1 : Int32).toInt ∧ (1 : Int32).toInt ≤ 1), ht⟩) (fun _ h => nomatch h) dX5_isBroughtToPay_71
      · have e_63560_n : ¬ (v_63545 : Int32).toInt = 2 := fun q => e_63560 (Int32.toInt_inj.mp (q.trans (by decide)))
        have e_63566 : v_63545 = 3 := Int32.toInt_inj.mp (((by have q1 := h_v_63545; omega) : (v_63545 : Int32).toInt = 3).trans (by decide))
        have h_63567 : 3 ≤ (v_63545 : Int32).toInt ∧ (v_63545 : Int32).toInt ≤ 3 := by rw [e_63566]; exact ⟨by decide, by decide⟩
        refine lv_lookup (off := 53) (tgt := 72) hx hb dX5_isBroughtToPay_19 (by decide) (by rw [e_63566]; decide) (by decide) ?_
        refine lv_iload hx hb dX5_isBroughtToPay_72 (lv_at hl 0 rfl) ?_
        refine lv_iload_n hx hb dX5_isBroughtToPay_74 rfl (lv_at hl 3 rfl) ?_
        refine lv_iand hx hb dX5_isBroughtToPay_75 ?_
        refine lv_topi (fun v_63568 v_63568_e => ?_)
        refine lv_if_eq (tgt := 92) hx hb dX5_isBroughtToPay_76 (by decide) (fun c_63569 => ?_) (fun c_63569 => ?_)
        · skip
          have h_63570 : 0 ≤ (v_63568 : Int32).toInt ∧ (v_63568 : Int32).toInt ≤ 0 := by rw [c_63569]; exact ⟨by decide, by decide⟩
          refine lv_iconst (v := 0) hx hb dX5_isBroughtToPay_92 (by decide) ?_
          exact W.zret (v := 0) hx hb hr (by decide) (fun t ht hW => ⟨0, rfl, (⟨by decide, by decide⟩ : 0 ≤ (0 : Int32).toInt ∧ (0 : Int32).toInt ≤ 1), ht⟩) (fun _ h => nomatch h) dX5_isBroughtToPay_93
        · skip
          refine lv_iload hx hb dX5_isBroughtToPay_79 (lv_at hl 0 rfl) ?_
          refine lv_iload_n hx hb dX5_isBroughtToPay_81 rfl (lv_at hl 4 rfl) ?_
          refine lv_iconst (v := (-1)) hx hb dX5_isBroughtToPay_82 (by decide) ?_
          refine lv_ixor hx hb dX5_isBroughtToPay_83 ?_
          refine lv_topi (fun v_63571 v_63571_e => ?_)
          refine lv_iand hx hb dX5_isBroughtToPay_84 ?_
          refine lv_topi (fun v_63572 v_63572_e => ?_)
          refine lv_if_ne (tgt := 92) hx hb dX5_isBroughtToPay_85 (by decide) (fun c_63573 => ?_) (fun c_63573 => ?_)
          · skip
            refine lv_iconst (v := 0) hx hb dX5_isBroughtToPay_92 (by decide) ?_
            exact W.zret (v := 0) hx hb hr (by decide) (fun t ht hW => ⟨0, rfl, (⟨by decide, by decide⟩ : 0 ≤ (0 : Int32).toInt ∧ (0 : Int32).toInt ≤ 1), ht⟩) (fun _ h => nomatch h) dX5_isBroughtToPay_93
          · skip
            have h_63574 : 0 ≤ (v_63572 : Int32).toInt ∧ (v_63572 : Int32).toInt ≤ 0 := by rw [c_63573]; exact ⟨by decide, by decide⟩
            refine lv_iconst (v := 1) hx hb dX5_isBroughtToPay_88 (by decide) ?_
            refine lv_goto (tgt := 93) hx hb dX5_isBroughtToPay_89 (by decide) ?_
            exact W.zret (v := 1) hx hb hr (by decide) (fun t ht hW => ⟨1, rfl, (⟨by decide, by decide⟩ : 0 ≤ (1 : Int32).toInt ∧ (1 : Int32).toInt ≤ 1), ht⟩) (fun _ h => nomatch h) dX5_isBroughtToPay_93
set_option maxHeartbeats 4000000 in
set_option maxRecDepth 100000 in
theorem c_X5_broughtToPay (l : Launch) (D : va_G) (g : Nat → ClassId) (rg : Nat) (p0 : Int32) (n : Nat) (n_nodes : Int32) (n_kind : Nat) (n_pay : Nat) (n_name : Nat) (n_ways : Nat) (n_held : Nat) (n_targets : Nat) (n_weights : Nat) (n_fkind : Nat → Int32) (n_fpay : Nat → Int32) (n_fways : Nat → Int32) (n_fheld : Nat → Int32) (n_ftargets : Nat → Int32) (h_n_nodes : 0 ≤ (n_nodes : Int32).toInt ∧ (n_nodes : Int32).toInt ≤ 12) (h_n_fkind : ∀ j : Nat, 0 ≤ (n_fkind j).toInt ∧ (n_fkind j).toInt ≤ 3) (h_n_fways : ∀ j : Nat, 0 ≤ (n_fways j).toInt ∧ (n_fways j).toInt ≤ 3) (h_n_fheld : ∀ j : Nat, (-1) ≤ (n_fheld j).toInt ∧ (n_fheld j).toInt ≤ 2) (h_n_ftargets : ∀ j : Nat, 0 ≤ (n_ftargets j).toInt ∧ (n_ftargets j).toInt ≤ 11) : Met l yX5_broughtToPay (.code yX5_broughtToPay cX5_broughtToPay 6 (some .int) :: wsL_law) ({ frames := 3, cells := 0, slots := 0, locals := 69 }) (va_Pc [.ref rg, .int p0] (fun U => va_P D vwCl [(wO5 rg n), (wO2 n n_nodes n_kind n_pay n_name n_ways n_held n_targets n_weights), (wI g n_kind 0 12 n_fkind), (wI g n_pay 0 12 n_fpay), (wI g n_ways 0 12 n_fways), (wI g n_held 0 12 n_fheld), (wI g n_targets 0 36 n_ftargets)] U.heap ∧ va_K D vwCl (TY g) U)) (vp_Si (fun r => True)) 0 0 (fun _ => False) := by
  refine Met.ofW (cc := cX5_broughtToPay) (maxL := 6) (ret := (some .int)) (by decide) rfl ?_
  intro p e s m args below meth c s₁ B hml hv
  obtain ⟨ha, hP, hK⟩ := hv
  have hx := B.exec
  have hb := B.bytes
  have hr := B.returns
  have hts0 := atoms_spec (ws := (.code yX5_broughtToPay cX5_broughtToPay 6 (some .int) :: wsL_law)) B.pre
  have hts : ∀ w ∈ wsL_law, w.before args s = true := fun w h => hts0 w (List.mem_cons_of_mem _ h)
  have hown : s.vm.findClass RX5 = some m.cls := findClass_of_methodNamed B.named
  have hlocks := B.notSynchronized
  have hP : va_P D vwCl [(wO5 rg n), (wO2 n n_nodes n_kind n_pay n_name n_ways n_held n_targets n_weights), (wI g n_kind 0 12 n_fkind), (wI g n_pay 0 12 n_fpay), (wI g n_ways 0 12 n_fways), (wI g n_held 0 12 n_fheld), (wI g n_targets 0 36 n_ftargets)] s.heap := hP
  refine W.eq (g2 := entryFrame m ([.ref rg, .int p0] : List Value).toArray 6) (by rw [ha]) ?_
  have hl := lv_entry ([.ref rg, .int p0]) (n := 6) (Nat.le_of_ble_eq_true rfl)
  rw [lg_entry_eq]
  generalize (lg_sl ([.ref rg, .int p0]) ++ List.replicate (6 - (lg_sl ([.ref rg, .int p0])).length) Slot.unset).toArray = ls at hl ⊢
  have hl : lv_has ls 6 [(0, .ref rg), (1, .int p0)] := hl
  refine lv_aload_n hx hb dX5_broughtToPay_0 rfl (lv_at hl 0 rfl) ?_
  refine va_get (D := D) (ci := 5) (v := .ref n) (C := RX5) (T := TX5) (N := 1) hx hb hts inlX5 hown hK hP 0 rfl rfl 0 (by decide) (hts (Cond.fieldLink RX5 9 "ChanceRings$Regions" "net" "LChanceRings$Net;") qw_456) (fun _ h9 => h9) rfl dX5_broughtToPay_1 ?_
  have hPc := hP.sub (ws' := [(wO2 n n_nodes n_kind n_pay n_name n_ways n_held n_targets n_weights), (wI g n_kind 0 12 n_fkind), (wI g n_pay 0 12 n_fpay)]) [1, 2, 3] rfl
  refine vp_callSi (va_Run.run (va_runV (As := []) (rest := []) ⟨hx, hb, hml, hown, hts⟩ (c_X2_payingEnds l D g n n_nodes n_kind n_pay n_name n_ways n_held n_targets n_weights n_fkind n_fpay (tr_w h_n_nodes (by decide) (by decide)) (tr_wa h_n_fkind (by decide) (by decide))) (cwV 0 hts (tz_gV qw_484 qw_485 qw_486 qw_322 qw_487) rfl rfl rfl (by decide +kernel) ⟨Nat.le_of_ble_eq_true rfl, Nat.le_of_ble_eq_true rfl⟩) ⟨tz_blS, va_recv hK hPc (ci := 2) (q0 := 0) rfl rfl, tz_preS hPc hK⟩ rfl rfl hl.1 rfl (lv_room (Nat.le_of_ble_eq_true rfl)) dX5_broughtToPay_4 ⟨Nat.le_of_ble_eq_true rfl, Nat.le_of_ble_eq_true rfl⟩)) (fun r_63575 hw => ?_)
  refine lv_istore_n (lv' := [(2, .int r_63575), (0, .ref rg), (1, .int p0)]) hx hb dX5_broughtToPay_7 rfl hl (by decide) rfl (fun ls hl => ?_)
  refine lv_iconst (v := (-1)) hx hb dX5_broughtToPay_8 (by decide) ?_
  refine lv_istore_n (lv' := [(3, .int (-1)), (2, .int r_63575), (0, .ref rg), (1, .int p0)]) hx hb dX5_broughtToPay_9 rfl hl (by decide) rfl (fun ls hl => ?_)
  refine lv_iconst (v := 0) hx hb dX5_broughtToPay_10 (by decide) ?_
  refine lv_istore (lv' := [(4, .int 0), (3, .int (-1)), (2, .int r_63575), (0, .ref rg), (1, .int p0)]) hx hb dX5_broughtToPay_11 hl (by decide) rfl (fun ls hl => ?_)
  have lp_65001 : ∀ (n_65001 : Nat) (x_64998 : Int32) (x_64999 : Int32) (x_65000 : Int32) (ls : Array Slot), (0 ≤ (x_64998 : Int32).toInt ∧ (x_64998 : Int32).toInt ≤ 12) → (12 - x_64998.toInt < (n_65001 : Int)) → lv_has ls 6 [(4, .int x_64998), (3, .int x_64999), (2, .int x_65000), (0, .ref rg), (1, .int p0)] → W p l e (headSpec (.code yX5_broughtToPay cX5_broughtToPay 6 (some .int) :: wsL_law) ({ frames := 3, cells := 0, slots := 0, locals := 69 })).room s m args below meth c s.heap [] 0 0 (MQ below (vp_Si (fun r => True)) args s 0 0 (fun _ => False)) (F0 m 13 ls []) := by
    intro n_65001
    induction n_65001 with
    | zero =>
      intro x_64998 x_64999 x_65000 ls h_x_64998 hm_65001 hl
      exfalso; omega
    | succ n_65001 ih_65001 =>
      intro x_64998 x_64999 x_65000 ls h_x_64998 hm_65001 hl
      refine lv_iload hx hb dX5_broughtToPay_13 (lv_at hl 0 rfl) ?_
      refine lv_bipush (v := 12) hx hb dX5_broughtToPay_15 (by decide) ?_
      refine lv_icmp_ge (tgt := 85) hx hb dX5_broughtToPay_17 (by decide) (fun c_65002 => ?_) (fun c_65002 => ?_)
      · skip
        have c_65002_i := Int32.le_iff_toInt_le.mp c_65002
        have h_65003 : 12 ≤ (x_64998 : Int32).toInt ∧ (x_64998 : Int32).toInt ≤ 12 := nr_le_r (⟨by decide, by decide⟩ : 12 ≤ (12 : Int32).toInt ∧ (12 : Int32).toInt ≤ 12) h_x_64998 c_65002_i (by decide) (by decide)
        refine lv_iload_n hx hb dX5_broughtToPay_85 rfl (lv_at hl 2 rfl) ?_
        exact W.iret (v := x_65000) hx hb hr (fun t ht hW => ⟨x_65000, rfl, trivial, ht⟩) (fun _ h => nomatch h) dX5_broughtToPay_86
      · skip
        have c_65002_i := Int32.lt_iff_toInt_lt.mp (Int32.not_le.mp c_65002)
        have h_65004 : 0 ≤ (x_64998 : Int32).toInt ∧ (x_64998 : Int32).toInt ≤ 11 := nr_lt_l h_x_64998 (⟨by decide, by decide⟩ : 12 ≤ (12 : Int32).toInt ∧ (12 : Int32).toInt ≤ 12) c_65002_i (by decide) (by decide)
        refine lv_iload_n hx hb dX5_broughtToPay_20 rfl (lv_at hl 2 rfl) ?_
        refine lv_iload_n hx hb dX5_broughtToPay_21 rfl (lv_at hl 1 rfl) ?_
        refine lv_icmp_eq (tgt := 85) hx hb dX5_broughtToPay_22 (by decide) (fun c_65005 => ?_) (fun c_65005 => ?_)
        · skip
          refine lv_iload_n hx hb dX5_broughtToPay_85 rfl (lv_at hl 2 rfl) ?_
          exact W.iret (v := x_65000) hx hb hr (fun t ht hW => ⟨x_65000, rfl, trivial, ht⟩) (fun _ h => nomatch h) dX5_broughtToPay_86
        · skip
          refine lv_iload_n hx hb dX5_broughtToPay_25 rfl (lv_at hl 2 rfl) ?_
          refine lv_istore_n (lv' := [(3, .int x_65000), (4, .int x_64998), (2, .int x_65000), (0, .ref rg), (1, .int p0)]) hx hb dX5_broughtToPay_26 rfl hl (by decide) rfl (fun ls hl => ?_)
          refine lv_iconst (v := 0) hx hb dX5_broughtToPay_27 (by decide) ?_
          refine lv_istore (lv' := [(5, .int 0), (3, .int x_65000), (4, .int x_64998), (2, .int x_65000), (0, .ref rg), (1, .int p0)]) hx hb dX5_broughtToPay_28 hl (by decide) rfl (fun ls hl => ?_)
          have lp_65162 : ∀ (n_65162 : Nat) (x_65160 : Int32) (x_65161 : Int32) (ls : Array Slot), (0 ≤ (x_65160 : Int32).toInt ∧ (x_65160 : Int32).toInt ≤ 12) → (12 - x_65160.toInt < (n_65162 : Int)) → lv_has ls 6 [(5, .int x_65160), (3, .int x_65000), (4, .int x_64998), (2, .int x_65161), (0, .ref rg), (1, .int p0)] → W p l e (headSpec (.code yX5_broughtToPay cX5_broughtToPay 6 (some .int) :: wsL_law) ({ frames := 3, cells := 0, slots := 0, locals := 69 })).room s m args below meth c s.heap [] 0 0 (MQ below (vp_Si (fun r => True)) args s 0 0 (fun _ => False)) (F0 m 30 ls []) := by
            intro n_65162
            induction n_65162 with
            | zero =>
              intro x_65160 x_65161 ls h_x_65160 hm_65162 hl
              exfalso; omega
            | succ n_65162 ih_65162 =>
              intro x_65160 x_65161 ls h_x_65160 hm_65162 hl
              refine lv_iload hx hb dX5_broughtToPay_30 (lv_at hl 0 rfl) ?_
              refine lv_aload_n hx hb dX5_broughtToPay_32 rfl (lv_at hl 4 rfl) ?_
              refine va_get (D := D) (ci := 5) (v := .ref n) (C := RX5) (T := TX5) (N := 1) hx hb hts inlX5 hown hK hP 0 rfl rfl 0 (by decide) (hts (Cond.fieldLink RX5 9 "ChanceRings$Regions" "net" "LChanceRings$Net;") qw_456) (fun _ h9 => h9) rfl dX5_broughtToPay_33 ?_
              refine va_get (D := D) (ci := 2) (v := .int n_nodes) (C := RX2) (T := TX2) (N := 8) hx hb hts inlX2 hown hK hP 1 rfl rfl 0 (by decide) (hts (Cond.fieldLink RX5 15 "ChanceRings$Net" "nodes" "I") qw_457) (fun _ h9 => h9) rfl dX5_broughtToPay_36 ?_
              refine lv_icmp_ge (tgt := 79) hx hb dX5_broughtToPay_39 (by decide) (fun c_65163 => ?_) (fun c_65163 => ?_)
              · skip
                obtain ⟨v_65166, v_65166_e⟩ : ∃ y : Int32, y = x_64998 + Int32.ofInt 1 := ⟨_, rfl⟩
                have h_v_65166 : 1 ≤ (v_65166 : Int32).toInt ∧ (v_65166 : Int32).toInt ≤ 12 := by rw [v_65166_e]; exact tr_add h_65004 (⟨by decide, by decide⟩ : 1 ≤ (Int32.ofInt 1 : Int32).toInt ∧ (Int32.ofInt 1 : Int32).toInt ≤ 1) (by decide) (by decide) (by decide) (by decide)
                have q_v_65166 : v_65166.toInt = x_64998.toInt + 1 := by rw [v_65166_e]; exact tr_addE h_65004 (⟨by decide, by decide⟩ : 1 ≤ (Int32.ofInt 1 : Int32).toInt ∧ (Int32.ofInt 1 : Int32).toInt ≤ 1) (by decide) (by decide)
                refine lv_iinc (v := v_65166) (lv' := [(4, .int v_65166), (5, .int x_65160), (3, .int x_65000), (2, .int x_65161), (0, .ref rg), (1, .int p0)]) hx hb dX5_broughtToPay_79 hl (k := 2) rfl v_65166_e.symm (by decide) rfl (fun ls hl => ?_)
                refine lv_goto (tgt := 13) hx hb dX5_broughtToPay_82 (by decide) ?_
                exact ih_65001 v_65166 x_65000 x_65161 ls (tr_w h_v_65166 (by decide) (by decide)) (by omega) (lv_sub hl [0, 2, 3, 4, 5] rfl)
              · skip
                have c_65163_i := Int32.lt_iff_toInt_lt.mp (Int32.not_le.mp c_65163)
                have h_65164 : 0 ≤ (x_65160 : Int32).toInt ∧ (x_65160 : Int32).toInt ≤ 11 := nr_lt_l h_x_65160 h_n_nodes c_65163_i (by decide) (by decide)
                have h_65165 : 1 ≤ (n_nodes : Int32).toInt ∧ (n_nodes : Int32).toInt ≤ 12 := nr_lt_r h_x_65160 h_n_nodes c_65163_i (by decide) (by decide)
                refine lv_aload_n hx hb dX5_broughtToPay_42 rfl (lv_at hl 4 rfl) ?_
                refine va_get (D := D) (ci := 5) (v := .ref n) (C := RX5) (T := TX5) (N := 1) hx hb hts inlX5 hown hK hP 0 rfl rfl 0 (by decide) (hts (Cond.fieldLink RX5 9 "ChanceRings$Regions" "net" "LChanceRings$Net;") qw_456) (fun _ h9 => h9) rfl dX5_broughtToPay_43 ?_
                refine va_get (D := D) (ci := 2) (v := .ref n_kind) (C := RX2) (T := TX2) (N := 8) hx hb hts inlX2 hown hK hP 1 rfl rfl 1 (by decide) (hts (Cond.fieldLink RX5 25 "ChanceRings$Net" "kind" "[I") qw_462) (fun _ h9 => h9) rfl dX5_broughtToPay_46 ?_
                refine lv_iload hx hb dX5_broughtToPay_49 (lv_at hl 0 rfl) ?_
                refine va_iald hx hb hK hP 2 0 rfl rfl (tr_in h_65164 (by decide) (by decide)) dX5_broughtToPay_51 ?_
                refine lv_topi (fun v_65167 v_65167_e => ?_)
                have h_v_65167 : 0 ≤ (v_65167 : Int32).toInt ∧ (v_65167 : Int32).toInt ≤ 3 := by rw [v_65167_e]; exact h_n_fkind _
                refine lv_if_eq (tgt := 73) hx hb dX5_broughtToPay_52 (by decide) (fun c_65168 => ?_) (fun c_65168 => ?_)
                · skip
                  have c_65168_i : (v_65167 : Int32).toInt = (0 : Int32).toInt := congrArg Int32.toInt c_65168
                  have h_65169 : 0 ≤ (v_65167 : Int32).toInt ∧ (v_65167 : Int32).toInt ≤ 0 := nr_eq_l h_v_65167 (⟨by decide, by decide⟩ : 0 ≤ (0 : Int32).toInt ∧ (0 : Int32).toInt ≤ 0) c_65168_i (by decide) (by decide)
                  obtain ⟨v_65171, v_65171_e⟩ : ∃ y : Int32, y = x_65160 + Int32.ofInt 1 := ⟨_, rfl⟩
                  have h_v_65171 : 1 ≤ (v_65171 : Int32).toInt ∧ (v_65171 : Int32).toInt ≤ 12 := by rw [v_65171_e]; exact tr_add h_65164 (⟨by decide, by decide⟩ : 1 ≤ (Int32.ofInt 1 : Int32).toInt ∧ (Int32.ofInt 1 : Int32).toInt ≤ 1) (by decide) (by decide) (by decide) (by decide)
                  have q_v_65171 : v_65171.toInt = x_65160.toInt + 1 := by rw [v_65171_e]; exact tr_addE h_65164 (⟨by decide, by decide⟩ : 1 ≤ (Int32.ofInt 1 : Int32).toInt ∧ (Int32.ofInt 1 : Int32).toInt ≤ 1) (by decide) (by decide)
                  refine lv_iinc (v := v_65171) (lv' := [(5, .int v_65171), (3, .int x_65000), (4, .int x_64998), (2, .int x_65161), (0, .ref rg), (1, .int p0)]) hx hb dX5_broughtToPay_73 hl (k := 0) rfl v_65171_e.symm (by decide) rfl (fun ls hl => ?_)
                  refine lv_goto (tgt := 30) hx hb dX5_broughtToPay_76 (by decide) ?_
                  exact ih_65162 v_65171 x_65161 ls (tr_w h_v_65171 (by decide) (by decide)) (by (first | (clear h_x_64998 c_65002_i h_65004 h_v_65167 c_65168_i h_65169; omega) | omega)) (lv_sub hl [0, 1, 2, 3, 4, 5] rfl)
                · skip
                  have c_65168_i : ¬ (v_65167 : Int32).toInt = (0 : Int32).toInt := (fun q => c_65168 (Int32.toInt_inj.mp q))
                  have h_65170 : 1 ≤ (v_65167 : Int32).toInt ∧ (v_65167 : Int32).toInt ≤ 3 := nr_ne_l h_v_65167 (⟨by decide, by decide⟩ : 0 ≤ (0 : Int32).toInt ∧ (0 : Int32).toInt ≤ 0) c_65168_i (by decide) (by decide)
                  refine lv_aload_n hx hb dX5_broughtToPay_55 rfl (lv_at hl 4 rfl) ?_
                  refine lv_iload hx hb dX5_broughtToPay_56 (lv_at hl 0 rfl) ?_
                  refine lv_iload_n hx hb dX5_broughtToPay_58 rfl (lv_at hl 3 rfl) ?_
                  refine lv_iload_n hx hb dX5_broughtToPay_59 rfl (lv_at hl 5 rfl) ?_
                  have hPc := hP.sub (ws' := [(wO5 rg n), (wO2 n n_nodes n_kind n_pay n_name n_ways n_held n_targets n_weights), (wI g n_kind 0 12 n_fkind), (wI g n_pay 0 12 n_fpay), (wI g n_ways 0 12 n_fways), (wI g n_held 0 12 n_fheld), (wI g n_targets 0 36 n_ftargets)]) [0, 1, 2, 3, 4, 5, 6] rfl
                  refine vp_callSi (va_Run.run (va_runV (As := [.int x_65160, .int x_65161, .int p0]) (rest := []) ⟨hx, hb, hml, hown, hts⟩ (c_X5_isBroughtToPay l D g rg x_65160 x_65161 p0 n n_nodes n_kind n_pay n_name n_ways n_held n_targets n_weights n_fkind n_fpay n_fways n_fheld n_ftargets (tr_w h_65164 (by decide) (by decide)) (tr_w h_65165 (by decide) (by decide)) (tr_wa h_n_fkind (by decide) (by decide)) (tr_wa h_n_fways (by decide) (by decide)) (tr_wa h_n_fheld (by decide) (by decide)) (tr_wa h_n_ftargets (by decide) (by decide))) (cwV 3 hts (tz_gV qw_488 qw_489 qw_490 qw_491 qw_492) rfl rfl rfl (by decide +kernel) ⟨Nat.le_of_ble_eq_true rfl, Nat.le_of_ble_eq_true rfl⟩) ⟨tz_blS, va_recv hK hPc (ci := 5) (q0 := 0) rfl rfl, tz_preS hPc hK⟩ rfl rfl hl.1 rfl (lv_room (Nat.le_of_ble_eq_true rfl)) dX5_broughtToPay_60 ⟨Nat.le_of_ble_eq_true rfl, Nat.le_of_ble_eq_true rfl⟩)) (fun r_65172 hw => ?_)
                  have hw_65173 : 0 ≤ (r_65172 : Int32).toInt ∧ (r_65172 : Int32).toInt ≤ 1 := hw
                  refine lv_if_eq (tgt := 73) hx hb dX5_broughtToPay_63 (by decide) (fun c_65174 => ?_) (fun c_65174 => ?_)
                  · skip
                    have c_65174_i : (r_65172 : Int32).toInt = (0 : Int32).toInt := congrArg Int32.toInt c_65174
                    have h_65175 : 0 ≤ (r_65172 : Int32).toInt ∧ (r_65172 : Int32).toInt ≤ 0 := nr_eq_l hw_65173 (⟨by decide, by decide⟩ : 0 ≤ (0 : Int32).toInt ∧ (0 : Int32).toInt ≤ 0) c_65174_i (by decide) (by decide)
                    obtain ⟨v_65177, v_65177_e⟩ : ∃ y : Int32, y = x_65160 + Int32.ofInt 1 := ⟨_, rfl⟩
                    have h_v_65177 : 1 ≤ (v_65177 : Int32).toInt ∧ (v_65177 : Int32).toInt ≤ 12 := by rw [v_65177_e]; exact tr_add h_65164 (⟨by decide, by decide⟩ : 1 ≤ (Int32.ofInt 1 : Int32).toInt ∧ (Int32.ofInt 1 : Int32).toInt ≤ 1) (by decide) (by decide) (by decide) (by decide)
                    have q_v_65177 : v_65177.toInt = x_65160.toInt + 1 := by rw [v_65177_e]; exact tr_addE h_65164 (⟨by decide, by decide⟩ : 1 ≤ (Int32.ofInt 1 : Int32).toInt ∧ (Int32.ofInt 1 : Int32).toInt ≤ 1) (by decide) (by decide)
                    refine lv_iinc (v := v_65177) (lv' := [(5, .int v_65177), (3, .int x_65000), (4, .int x_64998), (2, .int x_65161), (0, .ref rg), (1, .int p0)]) hx hb dX5_broughtToPay_73 hl (k := 0) rfl v_65177_e.symm (by decide) rfl (fun ls hl => ?_)
                    refine lv_goto (tgt := 30) hx hb dX5_broughtToPay_76 (by decide) ?_
                    exact ih_65162 v_65177 x_65161 ls (tr_w h_v_65177 (by decide) (by decide)) (by (first | (clear h_x_64998 c_65002_i h_65004 h_v_65167 c_65168_i h_65170 hw_65173 c_65174_i h_65175; omega) | omega)) (lv_sub hl [0, 1, 2, 3, 4, 5] rfl)
                  · skip
                    have c_65174_i : ¬ (r_65172 : Int32).toInt = (0 : Int32).toInt := (fun q => c_65174 (Int32.toInt_inj.mp q))
                    have h_65176 : 1 ≤ (r_65172 : Int32).toInt ∧ (r_65172 : Int32).toInt ≤ 1 := nr_ne_l hw_65173 (⟨by decide, by decide⟩ : 0 ≤ (0 : Int32).toInt ∧ (0 : Int32).toInt ≤ 0) c_65174_i (by decide) (by decide)
                    refine lv_iload_n hx hb dX5_broughtToPay_66 rfl (lv_at hl 3 rfl) ?_
                    refine lv_iconst (v := 1) hx hb dX5_broughtToPay_67 (by decide) ?_
                    refine lv_iload hx hb dX5_broughtToPay_68 (lv_at hl 0 rfl) ?_
                    refine lv_ishl hx hb dX5_broughtToPay_70 ?_
                    refine lv_topi (fun v_65178 v_65178_e => ?_)
                    refine lv_ior hx hb dX5_broughtToPay_71 ?_
                    refine lv_topi (fun v_65179 v_65179_e => ?_)
                    refine lv_istore_n (lv' := [(2, .int v_65179), (5, .int x_65160), (3, .int x_65000), (4, .int x_64998), (0, .ref rg), (1, .int p0)]) hx hb dX5_broughtToPay_72 rfl hl (by decide) rfl (fun ls hl => ?_)
                    obtain ⟨v_65180, v_65180_e⟩ : ∃ y : Int32, y = x_65160 + Int32.ofInt 1 := ⟨_, rfl⟩
                    have h_v_65180 : 1 ≤ (v_65180 : Int32).toInt ∧ (v_65180 : Int32).toInt ≤ 12 := by rw [v_65180_e]; exact tr_add h_65164 (⟨by decide, by decide⟩ : 1 ≤ (Int32.ofInt 1 : Int32).toInt ∧ (Int32.ofInt 1 : Int32).toInt ≤ 1) (by decide) (by decide) (by decide) (by decide)
                    have q_v_65180 : v_65180.toInt = x_65160.toInt + 1 := by rw [v_65180_e]; exact tr_addE h_65164 (⟨by decide, by decide⟩ : 1 ≤ (Int32.ofInt 1 : Int32).toInt ∧ (Int32.ofInt 1 : Int32).toInt ≤ 1) (by decide) (by decide)
                    refine lv_iinc (v := v_65180) (lv' := [(5, .int v_65180), (2, .int v_65179), (3, .int x_65000), (4, .int x_64998), (0, .ref rg), (1, .int p0)]) hx hb dX5_broughtToPay_73 hl (k := 1) rfl v_65180_e.symm (by decide) rfl (fun ls hl => ?_)
                    refine lv_goto (tgt := 30) hx hb dX5_broughtToPay_76 (by decide) ?_
                    exact ih_65162 v_65180 v_65179 ls (tr_w h_v_65180 (by decide) (by decide)) (by (first | (clear h_x_64998 c_65002_i h_65004 h_v_65167 c_65168_i h_65170 hw_65173 c_65174_i h_65176; omega) | omega)) (lv_sub hl [0, 2, 3, 1, 4, 5] rfl)
          exact lp_65162 13 0 x_65000 ls (⟨by decide, by decide⟩ : 0 ≤ (0 : Int32).toInt ∧ (0 : Int32).toInt ≤ 12) (by decide) (lv_sub hl [0, 1, 2, 3, 4, 5] rfl)
  exact lp_65001 13 0 (-1) r_63575 ls (⟨by decide, by decide⟩ : 0 ≤ (0 : Int32).toInt ∧ (0 : Int32).toInt ≤ 12) (by decide) (lv_sub hl [0, 1, 2, 3, 4] rfl)
set_option maxHeartbeats 4000000 in
set_option maxRecDepth 100000 in
theorem c_X5_surelyPaid (l : Launch) (D : va_G) (g : Nat → ClassId) (rg : Nat) (n : Nat) (n_nodes : Int32) (n_kind : Nat) (n_pay : Nat) (n_name : Nat) (n_ways : Nat) (n_held : Nat) (n_targets : Nat) (n_weights : Nat) (n_fkind : Nat → Int32) (n_fpay : Nat → Int32) (n_fways : Nat → Int32) (n_fheld : Nat → Int32) (n_ftargets : Nat → Int32) (h_n_nodes : 0 ≤ (n_nodes : Int32).toInt ∧ (n_nodes : Int32).toInt ≤ 12) (h_n_fkind : ∀ j : Nat, 0 ≤ (n_fkind j).toInt ∧ (n_fkind j).toInt ≤ 3) (h_n_fways : ∀ j : Nat, 0 ≤ (n_fways j).toInt ∧ (n_fways j).toInt ≤ 3) (h_n_fheld : ∀ j : Nat, (-1) ≤ (n_fheld j).toInt ∧ (n_fheld j).toInt ≤ 2) (h_n_ftargets : ∀ j : Nat, 0 ≤ (n_ftargets j).toInt ∧ (n_ftargets j).toInt ≤ 11) : Met l yX5_surelyPaid (.code yX5_surelyPaid cX5_surelyPaid 4 (some .int) :: wsL_law) ({ frames := 4, cells := 0, slots := 0, locals := 94 }) (va_Pc [.ref rg] (fun U => va_P D vwCl [(wO5 rg n), (wO2 n n_nodes n_kind n_pay n_name n_ways n_held n_targets n_weights), (wI g n_kind 0 12 n_fkind), (wI g n_pay 0 12 n_fpay), (wI g n_ways 0 12 n_fways), (wI g n_held 0 12 n_fheld), (wI g n_targets 0 36 n_ftargets)] U.heap ∧ va_K D vwCl (TY g) U)) (vp_Si (fun r => True)) 0 0 (fun _ => False) := by
  refine Met.ofW (cc := cX5_surelyPaid) (maxL := 4) (ret := (some .int)) (by decide) rfl ?_
  intro p e s m args below meth c s₁ B hml hv
  obtain ⟨ha, hP, hK⟩ := hv
  have hx := B.exec
  have hb := B.bytes
  have hr := B.returns
  have hts0 := atoms_spec (ws := (.code yX5_surelyPaid cX5_surelyPaid 4 (some .int) :: wsL_law)) B.pre
  have hts : ∀ w ∈ wsL_law, w.before args s = true := fun w h => hts0 w (List.mem_cons_of_mem _ h)
  have hown : s.vm.findClass RX5 = some m.cls := findClass_of_methodNamed B.named
  have hlocks := B.notSynchronized
  have hP : va_P D vwCl [(wO5 rg n), (wO2 n n_nodes n_kind n_pay n_name n_ways n_held n_targets n_weights), (wI g n_kind 0 12 n_fkind), (wI g n_pay 0 12 n_fpay), (wI g n_ways 0 12 n_fways), (wI g n_held 0 12 n_fheld), (wI g n_targets 0 36 n_ftargets)] s.heap := hP
  refine W.eq (g2 := entryFrame m ([.ref rg] : List Value).toArray 4) (by rw [ha]) ?_
  have hl := lv_entry ([.ref rg]) (n := 4) (Nat.le_of_ble_eq_true rfl)
  rw [lg_entry_eq]
  generalize (lg_sl ([.ref rg]) ++ List.replicate (4 - (lg_sl ([.ref rg])).length) Slot.unset).toArray = ls at hl ⊢
  have hl : lv_has ls 4 [(0, .ref rg)] := hl
  refine lv_iconst (v := 1) hx hb dX5_surelyPaid_0 (by decide) ?_
  refine lv_aload_n hx hb dX5_surelyPaid_1 rfl (lv_at hl 0 rfl) ?_
  refine va_get (D := D) (ci := 5) (v := .ref n) (C := RX5) (T := TX5) (N := 1) hx hb hts inlX5 hown hK hP 0 rfl rfl 0 (by decide) (hts (Cond.fieldLink RX5 9 "ChanceRings$Regions" "net" "LChanceRings$Net;") qw_456) (fun _ h9 => h9) rfl dX5_surelyPaid_2 ?_
  refine va_get (D := D) (ci := 2) (v := .int n_nodes) (C := RX2) (T := TX2) (N := 8) hx hb hts inlX2 hown hK hP 1 rfl rfl 0 (by decide) (hts (Cond.fieldLink RX5 15 "ChanceRings$Net" "nodes" "I") qw_457) (fun _ h9 => h9) rfl dX5_surelyPaid_5 ?_
  refine lv_ishl hx hb dX5_surelyPaid_8 ?_
  refine lv_topi (fun v_65181 v_65181_e => ?_)
  refine lv_iconst (v := 1) hx hb dX5_surelyPaid_9 (by decide) ?_
  refine lv_isub hx hb dX5_surelyPaid_10 ?_
  refine lv_topi (fun v_65182 v_65182_e => ?_)
  refine lv_istore_n (lv' := [(1, .int v_65182), (0, .ref rg)]) hx hb dX5_surelyPaid_11 rfl hl (by decide) rfl (fun ls hl => ?_)
  refine lv_iconst (v := (-1)) hx hb dX5_surelyPaid_12 (by decide) ?_
  refine lv_istore_n (lv' := [(2, .int (-1)), (1, .int v_65182), (0, .ref rg)]) hx hb dX5_surelyPaid_13 rfl hl (by decide) rfl (fun ls hl => ?_)
  refine lv_iconst (v := 0) hx hb dX5_surelyPaid_14 (by decide) ?_
  refine lv_istore_n (lv' := [(3, .int 0), (2, .int (-1)), (1, .int v_65182), (0, .ref rg)]) hx hb dX5_surelyPaid_15 rfl hl (by decide) rfl (fun ls hl => ?_)
  have lp_65240 : ∀ (n_65240 : Nat) (x_65237 : Int32) (x_65238 : Int32) (x_65239 : Int32) (ls : Array Slot), (0 ≤ (x_65237 : Int32).toInt ∧ (x_65237 : Int32).toInt ≤ 12) → (12 - x_65237.toInt < (n_65240 : Int)) → lv_has ls 4 [(3, .int x_65237), (2, .int x_65238), (1, .int x_65239), (0, .ref rg)] → W p l e (headSpec (.code yX5_surelyPaid cX5_surelyPaid 4 (some .int) :: wsL_law) ({ frames := 4, cells := 0, slots := 0, locals := 94 })).room s m args below meth c s.heap [] 0 0 (MQ below (vp_Si (fun r => True)) args s 0 0 (fun _ => False)) (F0 m 16 ls []) := by
    intro n_65240
    induction n_65240 with
    | zero =>
      intro x_65237 x_65238 x_65239 ls h_x_65237 hm_65240 hl
      exfalso; omega
    | succ n_65240 ih_65240 =>
      intro x_65237 x_65238 x_65239 ls h_x_65237 hm_65240 hl
      refine lv_iload_n hx hb dX5_surelyPaid_16 rfl (lv_at hl 0 rfl) ?_
      refine lv_bipush (v := 12) hx hb dX5_surelyPaid_17 (by decide) ?_
      refine lv_icmp_ge (tgt := 41) hx hb dX5_surelyPaid_19 (by decide) (fun c_65241 => ?_) (fun c_65241 => ?_)
      · skip
        have c_65241_i := Int32.le_iff_toInt_le.mp c_65241
        have h_65242 : 12 ≤ (x_65237 : Int32).toInt ∧ (x_65237 : Int32).toInt ≤ 12 := nr_le_r (⟨by decide, by decide⟩ : 12 ≤ (12 : Int32).toInt ∧ (12 : Int32).toInt ≤ 12) h_x_65237 c_65241_i (by decide) (by decide)
        refine lv_iload_n hx hb dX5_surelyPaid_41 rfl (lv_at hl 2 rfl) ?_
        exact W.iret (v := x_65239) hx hb hr (fun t ht hW => ⟨x_65239, rfl, trivial, ht⟩) (fun _ h => nomatch h) dX5_surelyPaid_42
      · skip
        have c_65241_i := Int32.lt_iff_toInt_lt.mp (Int32.not_le.mp c_65241)
        have h_65243 : 0 ≤ (x_65237 : Int32).toInt ∧ (x_65237 : Int32).toInt ≤ 11 := nr_lt_l h_x_65237 (⟨by decide, by decide⟩ : 12 ≤ (12 : Int32).toInt ∧ (12 : Int32).toInt ≤ 12) c_65241_i (by decide) (by decide)
        refine lv_iload_n hx hb dX5_surelyPaid_22 rfl (lv_at hl 2 rfl) ?_
        refine lv_iload_n hx hb dX5_surelyPaid_23 rfl (lv_at hl 1 rfl) ?_
        refine lv_icmp_eq (tgt := 41) hx hb dX5_surelyPaid_24 (by decide) (fun c_65244 => ?_) (fun c_65244 => ?_)
        · skip
          refine lv_iload_n hx hb dX5_surelyPaid_41 rfl (lv_at hl 2 rfl) ?_
          exact W.iret (v := x_65239) hx hb hr (fun t ht hW => ⟨x_65239, rfl, trivial, ht⟩) (fun _ h => nomatch h) dX5_surelyPaid_42
        · skip
          refine lv_iload_n hx hb dX5_surelyPaid_27 rfl (lv_at hl 2 rfl) ?_
          refine lv_istore_n (lv' := [(2, .int x_65239), (3, .int x_65237), (1, .int x_65239), (0, .ref rg)]) hx hb dX5_surelyPaid_28 rfl hl (by decide) rfl (fun ls hl => ?_)
          refine lv_aload_n hx hb dX5_surelyPaid_29 rfl (lv_at hl 3 rfl) ?_
          refine lv_iload_n hx hb dX5_surelyPaid_30 rfl (lv_at hl 2 rfl) ?_
          have hPc := hP.sub (ws' := [(wO5 rg n), (wO2 n n_nodes n_kind n_pay n_name n_ways n_held n_targets n_weights), (wI g n_kind 0 12 n_fkind), (wI g n_pay 0 12 n_fpay), (wI g n_ways 0 12 n_fways), (wI g n_held 0 12 n_fheld), (wI g n_targets 0 36 n_ftargets)]) [0, 1, 2, 3, 4, 5, 6] rfl
          refine vp_callSi (va_Run.run (va_runV (As := [.int x_65239]) (rest := []) ⟨hx, hb, hml, hown, hts⟩ (c_X5_broughtToPay l D g rg x_65239 n n_nodes n_kind n_pay n_name n_ways n_held n_targets n_weights n_fkind n_fpay n_fways n_fheld n_ftargets (tr_w h_n_nodes (by decide) (by decide)) (tr_wa h_n_fkind (by decide) (by decide)) (tr_wa h_n_fways (by decide) (by decide)) (tr_wa h_n_fheld (by decide) (by decide)) (tr_wa h_n_ftargets (by decide) (by decide))) (cwV 1 hts (tz_gV qw_493 qw_494 qw_495 qw_491 qw_496) rfl rfl rfl (by decide +kernel) ⟨Nat.le_of_ble_eq_true rfl, Nat.le_of_ble_eq_true rfl⟩) ⟨tz_blS, va_recv hK hPc (ci := 5) (q0 := 0) rfl rfl, tz_preS hPc hK⟩ rfl rfl hl.1 rfl (lv_room (Nat.le_of_ble_eq_true rfl)) dX5_surelyPaid_31 ⟨Nat.le_of_ble_eq_true rfl, Nat.le_of_ble_eq_true rfl⟩)) (fun r_65245 hw => ?_)
          refine lv_istore_n (lv' := [(1, .int r_65245), (2, .int x_65239), (3, .int x_65237), (0, .ref rg)]) hx hb dX5_surelyPaid_34 rfl hl (by decide) rfl (fun ls hl => ?_)
          obtain ⟨v_65246, v_65246_e⟩ : ∃ y : Int32, y = x_65237 + Int32.ofInt 1 := ⟨_, rfl⟩
          have h_v_65246 : 1 ≤ (v_65246 : Int32).toInt ∧ (v_65246 : Int32).toInt ≤ 12 := by rw [v_65246_e]; exact tr_add h_65243 (⟨by decide, by decide⟩ : 1 ≤ (Int32.ofInt 1 : Int32).toInt ∧ (Int32.ofInt 1 : Int32).toInt ≤ 1) (by decide) (by decide) (by decide) (by decide)
          have q_v_65246 : v_65246.toInt = x_65237.toInt + 1 := by rw [v_65246_e]; exact tr_addE h_65243 (⟨by decide, by decide⟩ : 1 ≤ (Int32.ofInt 1 : Int32).toInt ∧ (Int32.ofInt 1 : Int32).toInt ≤ 1) (by decide) (by decide)
          refine lv_iinc (v := v_65246) (lv' := [(3, .int v_65246), (1, .int r_65245), (2, .int x_65239), (0, .ref rg)]) hx hb dX5_surelyPaid_35 hl (k := 2) rfl v_65246_e.symm (by decide) rfl (fun ls hl => ?_)
          refine lv_goto (tgt := 16) hx hb dX5_surelyPaid_38 (by decide) ?_
          exact ih_65240 v_65246 x_65239 r_65245 ls (tr_w h_v_65246 (by decide) (by decide)) (by omega) (lv_sub hl [0, 2, 1, 3] rfl)
  exact lp_65240 13 0 (-1) v_65182 ls (⟨by decide, by decide⟩ : 0 ≤ (0 : Int32).toInt ∧ (0 : Int32).toInt ≤ 12) (by decide) (lv_sub hl [0, 1, 2, 3] rfl)
set_option maxHeartbeats 4000000 in
set_option maxRecDepth 100000 in
theorem c_X5_movesToPay (l : Launch) (D : va_G) (g : Nat → ClassId) (rg : Nat) (p0 : Int32) (n : Nat) (n_nodes : Int32) (n_kind : Nat) (n_pay : Nat) (n_name : Nat) (n_ways : Nat) (n_held : Nat) (n_targets : Nat) (n_weights : Nat) (n_fkind : Nat → Int32) (n_fpay : Nat → Int32) (n_fways : Nat → Int32) (n_fheld : Nat → Int32) (n_ftargets : Nat → Int32) (h_p0 : 0 ≤ (p0 : Int32).toInt ∧ (p0 : Int32).toInt ≤ 11) (h_n_nodes : 0 ≤ (n_nodes : Int32).toInt ∧ (n_nodes : Int32).toInt ≤ 12) (h_n_fkind : ∀ j : Nat, 0 ≤ (n_fkind j).toInt ∧ (n_fkind j).toInt ≤ 3) (h_n_fways : ∀ j : Nat, 0 ≤ (n_fways j).toInt ∧ (n_fways j).toInt ≤ 3) (h_n_fheld : ∀ j : Nat, (-1) ≤ (n_fheld j).toInt ∧ (n_fheld j).toInt ≤ 2) (h_n_ftargets : ∀ j : Nat, 0 ≤ (n_ftargets j).toInt ∧ (n_ftargets j).toInt ≤ 11) : Met l yX5_movesToPay (.code yX5_movesToPay cX5_movesToPay 7 (some .int) :: wsL_law) ({ frames := 2, cells := 0, slots := 0, locals := 45 }) (va_Pc [.ref rg, .int p0] (fun U => va_P D vwCl [(wO5 rg n), (wO2 n n_nodes n_kind n_pay n_name n_ways n_held n_targets n_weights), (wI g n_kind 0 12 n_fkind), (wI g n_pay 0 12 n_fpay), (wI g n_ways 0 12 n_fways), (wI g n_held 0 12 n_fheld), (wI g n_targets 0 36 n_ftargets)] U.heap ∧ va_K D vwCl (TY g) U)) (vp_Si (fun r => True)) 0 0 (fun _ => False) := by
  refine Met.ofW (cc := cX5_movesToPay) (maxL := 7) (ret := (some .int)) (by decide) rfl ?_
  intro p e s m args below meth c s₁ B hml hv
  obtain ⟨ha, hP, hK⟩ := hv
  have hx := B.exec
  have hb := B.bytes
  have hr := B.returns
  have hts0 := atoms_spec (ws := (.code yX5_movesToPay cX5_movesToPay 7 (some .int) :: wsL_law)) B.pre
  have hts : ∀ w ∈ wsL_law, w.before args s = true := fun w h => hts0 w (List.mem_cons_of_mem _ h)
  have hown : s.vm.findClass RX5 = some m.cls := findClass_of_methodNamed B.named
  have hlocks := B.notSynchronized
  have hP : va_P D vwCl [(wO5 rg n), (wO2 n n_nodes n_kind n_pay n_name n_ways n_held n_targets n_weights), (wI g n_kind 0 12 n_fkind), (wI g n_pay 0 12 n_fpay), (wI g n_ways 0 12 n_fways), (wI g n_held 0 12 n_fheld), (wI g n_targets 0 36 n_ftargets)] s.heap := hP
  refine W.eq (g2 := entryFrame m ([.ref rg, .int p0] : List Value).toArray 7) (by rw [ha]) ?_
  have hl := lv_entry ([.ref rg, .int p0]) (n := 7) (Nat.le_of_ble_eq_true rfl)
  rw [lg_entry_eq]
  generalize (lg_sl ([.ref rg, .int p0]) ++ List.replicate (7 - (lg_sl ([.ref rg, .int p0])).length) Slot.unset).toArray = ls at hl ⊢
  have hl : lv_has ls 7 [(0, .ref rg), (1, .int p0)] := hl
  refine lv_aload_n hx hb dX5_movesToPay_0 rfl (lv_at hl 0 rfl) ?_
  refine va_get (D := D) (ci := 5) (v := .ref n) (C := RX5) (T := TX5) (N := 1) hx hb hts inlX5 hown hK hP 0 rfl rfl 0 (by decide) (hts (Cond.fieldLink RX5 9 "ChanceRings$Regions" "net" "LChanceRings$Net;") qw_456) (fun _ h9 => h9) rfl dX5_movesToPay_1 ?_
  have hPc := hP.sub (ws' := [(wO2 n n_nodes n_kind n_pay n_name n_ways n_held n_targets n_weights), (wI g n_kind 0 12 n_fkind), (wI g n_pay 0 12 n_fpay)]) [1, 2, 3] rfl
  refine vp_callSi (va_Run.run (va_runV (As := []) (rest := []) ⟨hx, hb, hml, hown, hts⟩ (c_X2_payingEnds l D g n n_nodes n_kind n_pay n_name n_ways n_held n_targets n_weights n_fkind n_fpay (tr_w h_n_nodes (by decide) (by decide)) (tr_wa h_n_fkind (by decide) (by decide))) (cwV 0 hts (tz_gV qw_484 qw_485 qw_486 qw_322 qw_487) rfl rfl rfl (by decide +kernel) ⟨Nat.le_of_ble_eq_true rfl, Nat.le_of_ble_eq_true rfl⟩) ⟨tz_blS, va_recv hK hPc (ci := 2) (q0 := 0) rfl rfl, tz_preS hPc hK⟩ rfl rfl hl.1 rfl (lv_room (Nat.le_of_ble_eq_true rfl)) dX5_movesToPay_4 ⟨Nat.le_of_ble_eq_true rfl, Nat.le_of_ble_eq_true rfl⟩)) (fun r_65247 hw => ?_)
  refine lv_istore_n (lv' := [(2, .int r_65247), (0, .ref rg), (1, .int p0)]) hx hb dX5_movesToPay_7 rfl hl (by decide) rfl (fun ls hl => ?_)
  refine lv_iconst (v := 1) hx hb dX5_movesToPay_8 (by decide) ?_
  refine lv_iload_n hx hb dX5_movesToPay_9 rfl (lv_at hl 2 rfl) ?_
  refine lv_ishl hx hb dX5_movesToPay_10 ?_
  refine lv_topi (fun v_65248 v_65248_e => ?_)
  refine lv_istore_n (lv' := [(3, .int v_65248), (2, .int r_65247), (0, .ref rg), (1, .int p0)]) hx hb dX5_movesToPay_11 rfl hl (by decide) rfl (fun ls hl => ?_)
  refine lv_iconst (v := 0) hx hb dX5_movesToPay_12 (by decide) ?_
  refine lv_istore (lv' := [(4, .int 0), (3, .int v_65248), (2, .int r_65247), (0, .ref rg), (1, .int p0)]) hx hb dX5_movesToPay_13 hl (by decide) rfl (fun ls hl => ?_)
  have lp_66265 : ∀ (n_66265 : Nat) (x_66263 : Int32) (x_66264 : Int32) (ls : Array Slot), (0 ≤ (x_66263 : Int32).toInt ∧ (x_66263 : Int32).toInt ≤ 12) → (12 - x_66263.toInt < (n_66265 : Int)) → lv_has ls 7 [(4, .int x_66263), (3, .int x_66264), (2, .int r_65247), (0, .ref rg), (1, .int p0)] → W p l e (headSpec (.code yX5_movesToPay cX5_movesToPay 7 (some .int) :: wsL_law) ({ frames := 2, cells := 0, slots := 0, locals := 45 })).room s m args below meth c s.heap [] 0 0 (MQ below (vp_Si (fun r => True)) args s 0 0 (fun _ => False)) (F0 m 15 ls []) := by
    intro n_66265
    induction n_66265 with
    | zero =>
      intro x_66263 x_66264 ls h_x_66263 hm_66265 hl
      exfalso; omega
    | succ n_66265 ih_66265 =>
      intro x_66263 x_66264 ls h_x_66263 hm_66265 hl
      refine lv_iload hx hb dX5_movesToPay_15 (lv_at hl 0 rfl) ?_
      refine lv_bipush (v := 12) hx hb dX5_movesToPay_17 (by decide) ?_
      refine lv_icmp_ge (tgt := 83) hx hb dX5_movesToPay_19 (by decide) (fun c_66266 => ?_) (fun c_66266 => ?_)
      · skip
        have c_66266_i := Int32.le_iff_toInt_le.mp c_66266
        have h_66267 : 12 ≤ (x_66263 : Int32).toInt ∧ (x_66263 : Int32).toInt ≤ 12 := nr_le_r (⟨by decide, by decide⟩ : 12 ≤ (12 : Int32).toInt ∧ (12 : Int32).toInt ≤ 12) h_x_66263 c_66266_i (by decide) (by decide)
        refine lv_iconst (v := (-1)) hx hb dX5_movesToPay_83 (by decide) ?_
        exact W.iret (v := (-1)) hx hb hr (fun t ht hW => ⟨(-1), rfl, trivial, ht⟩) (fun _ h => nomatch h) dX5_movesToPay_84
      · skip
        have c_66266_i := Int32.lt_iff_toInt_lt.mp (Int32.not_le.mp c_66266)
        have h_66268 : 0 ≤ (x_66263 : Int32).toInt ∧ (x_66263 : Int32).toInt ≤ 11 := nr_lt_l h_x_66263 (⟨by decide, by decide⟩ : 12 ≤ (12 : Int32).toInt ∧ (12 : Int32).toInt ≤ 12) c_66266_i (by decide) (by decide)
        refine lv_iload_n hx hb dX5_movesToPay_22 rfl (lv_at hl 1 rfl) ?_
        refine lv_iload_n hx hb dX5_movesToPay_23 rfl (lv_at hl 2 rfl) ?_
        refine lv_iand hx hb dX5_movesToPay_24 ?_
        refine lv_topi (fun v_66269 v_66269_e => ?_)
        refine lv_if_eq (tgt := 31) hx hb dX5_movesToPay_25 (by decide) (fun c_66270 => ?_) (fun c_66270 => ?_)
        · skip
          have h_66271 : 0 ≤ (v_66269 : Int32).toInt ∧ (v_66269 : Int32).toInt ≤ 0 := by rw [c_66270]; exact ⟨by decide, by decide⟩
          refine lv_iload_n hx hb dX5_movesToPay_31 rfl (lv_at hl 1 rfl) ?_
          refine lv_istore (lv' := [(5, .int x_66264), (4, .int x_66263), (3, .int x_66264), (2, .int r_65247), (0, .ref rg), (1, .int p0)]) hx hb dX5_movesToPay_32 hl (by decide) rfl (fun ls hl => ?_)
          refine lv_iconst (v := 0) hx hb dX5_movesToPay_34 (by decide) ?_
          refine lv_istore (lv' := [(6, .int 0), (5, .int x_66264), (4, .int x_66263), (3, .int x_66264), (2, .int r_65247), (0, .ref rg), (1, .int p0)]) hx hb dX5_movesToPay_35 hl (by decide) rfl (fun ls hl => ?_)
          have lp_66382 : ∀ (n_66382 : Nat) (x_66380 : Int32) (x_66381 : Int32) (ls : Array Slot), (0 ≤ (x_66380 : Int32).toInt ∧ (x_66380 : Int32).toInt ≤ 12) → (12 - x_66380.toInt < (n_66382 : Int)) → lv_has ls 7 [(6, .int x_66380), (5, .int x_66264), (4, .int x_66263), (3, .int x_66381), (2, .int r_65247), (0, .ref rg), (1, .int p0)] → W p l e (headSpec (.code yX5_movesToPay cX5_movesToPay 7 (some .int) :: wsL_law) ({ frames := 2, cells := 0, slots := 0, locals := 45 })).room s m args below meth c s.heap [] 0 0 (MQ below (vp_Si (fun r => True)) args s 0 0 (fun _ => False)) (F0 m 37 ls []) := by
            intro n_66382
            induction n_66382 with
            | zero =>
              intro x_66380 x_66381 ls h_x_66380 hm_66382 hl
              exfalso; omega
            | succ n_66382 ih_66382 =>
              intro x_66380 x_66381 ls h_x_66380 hm_66382 hl
              refine lv_iload hx hb dX5_movesToPay_37 (lv_at hl 0 rfl) ?_
              refine lv_aload_n hx hb dX5_movesToPay_39 rfl (lv_at hl 5 rfl) ?_
              refine va_get (D := D) (ci := 5) (v := .ref n) (C := RX5) (T := TX5) (N := 1) hx hb hts inlX5 hown hK hP 0 rfl rfl 0 (by decide) (hts (Cond.fieldLink RX5 9 "ChanceRings$Regions" "net" "LChanceRings$Net;") qw_456) (fun _ h9 => h9) rfl dX5_movesToPay_40 ?_
              refine va_get (D := D) (ci := 2) (v := .int n_nodes) (C := RX2) (T := TX2) (N := 8) hx hb hts inlX2 hown hK hP 1 rfl rfl 0 (by decide) (hts (Cond.fieldLink RX5 15 "ChanceRings$Net" "nodes" "I") qw_457) (fun _ h9 => h9) rfl dX5_movesToPay_43 ?_
              refine lv_icmp_ge (tgt := 77) hx hb dX5_movesToPay_46 (by decide) (fun c_66383 => ?_) (fun c_66383 => ?_)
              · skip
                obtain ⟨v_66386, v_66386_e⟩ : ∃ y : Int32, y = x_66263 + Int32.ofInt 1 := ⟨_, rfl⟩
                have h_v_66386 : 1 ≤ (v_66386 : Int32).toInt ∧ (v_66386 : Int32).toInt ≤ 12 := by rw [v_66386_e]; exact tr_add h_66268 (⟨by decide, by decide⟩ : 1 ≤ (Int32.ofInt 1 : Int32).toInt ∧ (Int32.ofInt 1 : Int32).toInt ≤ 1) (by decide) (by decide) (by decide) (by decide)
                have q_v_66386 : v_66386.toInt = x_66263.toInt + 1 := by rw [v_66386_e]; exact tr_addE h_66268 (⟨by decide, by decide⟩ : 1 ≤ (Int32.ofInt 1 : Int32).toInt ∧ (Int32.ofInt 1 : Int32).toInt ≤ 1) (by decide) (by decide)
                refine lv_iinc (v := v_66386) (lv' := [(4, .int v_66386), (6, .int x_66380), (5, .int x_66264), (3, .int x_66381), (2, .int r_65247), (0, .ref rg), (1, .int p0)]) hx hb dX5_movesToPay_77 hl (k := 2) rfl v_66386_e.symm (by decide) rfl (fun ls hl => ?_)
                refine lv_goto (tgt := 15) hx hb dX5_movesToPay_80 (by decide) ?_
                exact ih_66265 v_66386 x_66381 ls (tr_w h_v_66386 (by decide) (by decide)) (by (first | (clear h_p0 h_n_nodes h_66271 h_x_66380; omega) | omega)) (lv_sub hl [0, 3, 4, 5, 6] rfl)
              · skip
                have c_66383_i := Int32.lt_iff_toInt_lt.mp (Int32.not_le.mp c_66383)
                have h_66384 : 0 ≤ (x_66380 : Int32).toInt ∧ (x_66380 : Int32).toInt ≤ 11 := nr_lt_l h_x_66380 h_n_nodes c_66383_i (by decide) (by decide)
                have h_66385 : 1 ≤ (n_nodes : Int32).toInt ∧ (n_nodes : Int32).toInt ≤ 12 := nr_lt_r h_x_66380 h_n_nodes c_66383_i (by decide) (by decide)
                refine lv_iload hx hb dX5_movesToPay_49 (lv_at hl 1 rfl) ?_
                refine lv_iload hx hb dX5_movesToPay_51 (lv_at hl 0 rfl) ?_
                refine lv_ishr hx hb dX5_movesToPay_53 ?_
                refine lv_topi (fun v_66387 v_66387_e => ?_)
                refine lv_iconst (v := 1) hx hb dX5_movesToPay_54 (by decide) ?_
                refine lv_iand hx hb dX5_movesToPay_55 ?_
                refine lv_topi (fun v_66388 v_66388_e => ?_)
                refine lv_if_eq (tgt := 71) hx hb dX5_movesToPay_56 (by decide) (fun c_66389 => ?_) (fun c_66389 => ?_)
                · skip
                  have h_66390 : 0 ≤ (v_66388 : Int32).toInt ∧ (v_66388 : Int32).toInt ≤ 0 := by rw [c_66389]; exact ⟨by decide, by decide⟩
                  obtain ⟨v_66391, v_66391_e⟩ : ∃ y : Int32, y = x_66380 + Int32.ofInt 1 := ⟨_, rfl⟩
                  have h_v_66391 : 1 ≤ (v_66391 : Int32).toInt ∧ (v_66391 : Int32).toInt ≤ 12 := by rw [v_66391_e]; exact tr_add h_66384 (⟨by decide, by decide⟩ : 1 ≤ (Int32.ofInt 1 : Int32).toInt ∧ (Int32.ofInt 1 : Int32).toInt ≤ 1) (by decide) (by decide) (by decide) (by decide)
                  have q_v_66391 : v_66391.toInt = x_66380.toInt + 1 := by rw [v_66391_e]; exact tr_addE h_66384 (⟨by decide, by decide⟩ : 1 ≤ (Int32.ofInt 1 : Int32).toInt ∧ (Int32.ofInt 1 : Int32).toInt ≤ 1) (by decide) (by decide)
                  refine lv_iinc (v := v_66391) (lv' := [(6, .int v_66391), (5, .int x_66264), (4, .int x_66263), (3, .int x_66381), (2, .int r_65247), (0, .ref rg), (1, .int p0)]) hx hb dX5_movesToPay_71 hl (k := 0) rfl v_66391_e.symm (by decide) rfl (fun ls hl => ?_)
                  refine lv_goto (tgt := 37) hx hb dX5_movesToPay_74 (by decide) ?_
                  exact ih_66382 v_66391 x_66381 ls (tr_w h_v_66391 (by decide) (by decide)) (by (first | (clear h_p0 h_x_66263 c_66266_i h_66268 h_66271 h_66390; omega) | omega)) (lv_sub hl [0, 1, 2, 3, 4, 5, 6] rfl)
                · skip
                  refine lv_iload_n hx hb dX5_movesToPay_59 rfl (lv_at hl 3 rfl) ?_
                  refine lv_aload_n hx hb dX5_movesToPay_60 rfl (lv_at hl 5 rfl) ?_
                  refine va_get (D := D) (ci := 5) (v := .ref n) (C := RX5) (T := TX5) (N := 1) hx hb hts inlX5 hown hK hP 0 rfl rfl 0 (by decide) (hts (Cond.fieldLink RX5 9 "ChanceRings$Regions" "net" "LChanceRings$Net;") qw_456) (fun _ h9 => h9) rfl dX5_movesToPay_61 ?_
                  refine lv_iload hx hb dX5_movesToPay_64 (lv_at hl 0 rfl) ?_
                  have hPc := hP.sub (ws' := [(wO2 n n_nodes n_kind n_pay n_name n_ways n_held n_targets n_weights), (wI g n_ways 0 12 n_fways), (wI g n_held 0 12 n_fheld), (wI g n_targets 0 36 n_ftargets)]) [1, 4, 5, 6] rfl
                  refine vp_callSi (va_Run.run (va_runV (As := [.int x_66380]) (rest := [.int x_66381]) ⟨hx, hb, hml, hown, hts⟩ (c_X2_nextNodes l D g n x_66380 n_nodes n_kind n_pay n_name n_ways n_held n_targets n_weights n_fways n_fheld n_ftargets (tr_w h_66384 (by decide) (by decide)) (tr_w h_66385 (by decide) (by decide)) (tr_wa h_n_fways (by decide) (by decide)) (tr_wa h_n_fheld (by decide) (by decide)) (tr_wa h_n_ftargets (by decide) (by decide))) (cwV 1 hts (tz_gV qw_458 qw_459 qw_460 qw_322 qw_461) rfl rfl rfl (by decide +kernel) ⟨Nat.le_of_ble_eq_true rfl, Nat.le_of_ble_eq_true rfl⟩) ⟨tz_blS, va_recv hK hPc (ci := 2) (q0 := 0) rfl rfl, tz_preS hPc hK⟩ rfl rfl hl.1 rfl (lv_room (Nat.le_of_ble_eq_true rfl)) dX5_movesToPay_66 ⟨Nat.le_of_ble_eq_true rfl, Nat.le_of_ble_eq_true rfl⟩)) (fun r_66392 hw => ?_)
                  refine lv_ior hx hb dX5_movesToPay_69 ?_
                  refine lv_topi (fun v_66393 v_66393_e => ?_)
                  refine lv_istore_n (lv' := [(3, .int v_66393), (6, .int x_66380), (5, .int x_66264), (4, .int x_66263), (2, .int r_65247), (0, .ref rg), (1, .int p0)]) hx hb dX5_movesToPay_70 rfl hl (by decide) rfl (fun ls hl => ?_)
                  obtain ⟨v_66394, v_66394_e⟩ : ∃ y : Int32, y = x_66380 + Int32.ofInt 1 := ⟨_, rfl⟩
                  have h_v_66394 : 1 ≤ (v_66394 : Int32).toInt ∧ (v_66394 : Int32).toInt ≤ 12 := by rw [v_66394_e]; exact tr_add h_66384 (⟨by decide, by decide⟩ : 1 ≤ (Int32.ofInt 1 : Int32).toInt ∧ (Int32.ofInt 1 : Int32).toInt ≤ 1) (by decide) (by decide) (by decide) (by decide)
                  have q_v_66394 : v_66394.toInt = x_66380.toInt + 1 := by rw [v_66394_e]; exact tr_addE h_66384 (⟨by decide, by decide⟩ : 1 ≤ (Int32.ofInt 1 : Int32).toInt ∧ (Int32.ofInt 1 : Int32).toInt ≤ 1) (by decide) (by decide)
                  refine lv_iinc (v := v_66394) (lv' := [(6, .int v_66394), (3, .int v_66393), (5, .int x_66264), (4, .int x_66263), (2, .int r_65247), (0, .ref rg), (1, .int p0)]) hx hb dX5_movesToPay_71 hl (k := 1) rfl v_66394_e.symm (by decide) rfl (fun ls hl => ?_)
                  refine lv_goto (tgt := 37) hx hb dX5_movesToPay_74 (by decide) ?_
                  exact ih_66382 v_66394 v_66393 ls (tr_w h_v_66394 (by decide) (by decide)) (by (first | (clear h_p0 h_x_66263 c_66266_i h_66268 h_66271; omega) | omega)) (lv_sub hl [0, 2, 3, 1, 4, 5, 6] rfl)
          exact lp_66382 13 0 x_66264 ls (⟨by decide, by decide⟩ : 0 ≤ (0 : Int32).toInt ∧ (0 : Int32).toInt ≤ 12) (by decide) (lv_sub hl [0, 1, 2, 3, 4, 5, 6] rfl)
        · skip
          refine lv_iload hx hb dX5_movesToPay_28 (lv_at hl 0 rfl) ?_
          exact W.iret (v := x_66263) hx hb hr (fun t ht hW => ⟨x_66263, rfl, trivial, ht⟩) (fun _ h => nomatch h) dX5_movesToPay_30
  exact lp_66265 13 0 v_65248 ls (⟨by decide, by decide⟩ : 0 ≤ (0 : Int32).toInt ∧ (0 : Int32).toInt ≤ 12) (by decide) (lv_sub hl [0, 1, 2, 3, 4] rfl)
set_option maxHeartbeats 4000000 in
set_option maxRecDepth 100000 in
theorem c_X0_lay (l : Launch) (D : va_G) (g : Nat → ClassId) (sz : Nat) (co : Nat) (pl : Nat) (p0 : Int32) (p1 : Int32) (p2 : Int32) (n : Nat) (eq : Nat) (co_place : Nat) (n_nodes : Int32) (n_kind : Nat) (n_pay : Nat) (n_name : Nat) (n_ways : Nat) (n_held : Nat) (n_targets : Nat) (n_weights : Nat) (n_fkind : Nat → Int32) (n_fpay : Nat → Int32) (n_fways : Nat → Int32) (n_fheld : Nat → Int32) (n_ftargets : Nat → Int32) (n_fweights : Nat → Int32) (pcf : Nat → Int32) (eq_rows : Nat) (eq_right : Nat) (ew : Int64) (fr : Nat → Int64) (rr : Nat → Nat) (ct : Nat → Nat → Int64) (plf : Nat → Int32) (h_n_nodes : 0 ≤ (n_nodes : Int32).toInt ∧ (n_nodes : Int32).toInt ≤ 12) (h_n_fkind : ∀ j : Nat, 0 ≤ (n_fkind j).toInt ∧ (n_fkind j).toInt ≤ 3) (h_n_fways : ∀ j : Nat, 0 ≤ (n_fways j).toInt ∧ (n_fways j).toInt ≤ 3) (h_n_fheld : ∀ j : Nat, (-1) ≤ (n_fheld j).toInt ∧ (n_fheld j).toInt ≤ 2) (h_n_ftargets : ∀ j : Nat, 0 ≤ (n_ftargets j).toInt ∧ (n_ftargets j).toInt ≤ 11) (h_pcf : ∀ j : Nat, (-1) ≤ (pcf j).toInt ∧ (pcf j).toInt ≤ 7) (h_plf : ∀ j : Nat, 0 ≤ (plf j).toInt ∧ (plf j).toInt ≤ 2) : Met l yX0_lay (.code yX0_lay cX0_lay 10 (some .int) :: wsL_law) ({ frames := 1, cells := 0, slots := 0, locals := 23 }) (va_Pc [.ref co, .ref pl, .int p0, .int p1, .int p2] (fun U => U.heap.size = sz ∧ va_P D vwCl [(wO0 co n eq co_place), (wO2 n n_nodes n_kind n_pay n_name n_ways n_held n_targets n_weights), (wI g n_kind 0 12 n_fkind), (wI g n_pay 0 12 n_fpay), (wI g n_ways 0 12 n_fways), (wI g n_held 0 12 n_fheld), (wI g n_targets 0 36 n_ftargets), (wI g n_weights 0 36 n_fweights), (wI g co_place 0 12 pcf), (wO1 eq eq_rows eq_right ew), (wJ g eq_right 1 8 fr), (wR g eq_rows 5 8 (fun i => if i < 8 then some (rr i) else none)), (wJ g (rr 0) 1 8 (ct 0)), (wJ g (rr 1) 1 8 (ct 1)), (wJ g (rr 2) 1 8 (ct 2)), (wJ g (rr 3) 1 8 (ct 3)), (wJ g (rr 4) 1 8 (ct 4)), (wJ g (rr 5) 1 8 (ct 5)), (wJ g (rr 6) 1 8 (ct 6)), (wJ g (rr 7) 1 8 (ct 7)), (wI g pl 0 12 plf)] U.heap ∧ va_K D vwCl (TY g) U ∧ va_D (fun _ => True) [(wO0 co n eq co_place), (wO2 n n_nodes n_kind n_pay n_name n_ways n_held n_targets n_weights), (wI g n_kind 0 12 n_fkind), (wI g n_pay 0 12 n_fpay), (wI g n_ways 0 12 n_fways), (wI g n_held 0 12 n_fheld), (wI g n_targets 0 36 n_ftargets), (wI g n_weights 0 36 n_fweights), (wI g co_place 0 12 pcf), (wO1 eq eq_rows eq_right ew), (wJ g eq_right 1 8 fr), (wR g eq_rows 5 8 (fun i => if i < 8 then some (rr i) else none)), (wJ g (rr 0) 1 8 (ct 0)), (wJ g (rr 1) 1 8 (ct 1)), (wJ g (rr 2) 1 8 (ct 2)), (wJ g (rr 3) 1 8 (ct 3)), (wJ g (rr 4) 1 8 (ct 4)), (wJ g (rr 5) 1 8 (ct 5)), (wJ g (rr 6) 1 8 (ct 6)), (wJ g (rr 7) 1 8 (ct 7)), (wI g pl 0 12 plf)])) (va_Qi (fun r (_ : Unit) => 0 ≤ (r : Int32).toInt ∧ (r : Int32).toInt ≤ 8) (fun _ t => ∃ opc : Nat → Int32, ∃ ofr : Nat → Int64, ∃ oct : Nat → Nat → Int64, (∀ j : Nat, (-1) ≤ (opc j).toInt ∧ (opc j).toInt ≤ 7) ∧ va_P D vwCl [(wO0 co n eq co_place), (wO2 n n_nodes n_kind n_pay n_name n_ways n_held n_targets n_weights), (wI g n_kind 0 12 n_fkind), (wI g n_pay 0 12 n_fpay), (wI g n_ways 0 12 n_fways), (wI g n_held 0 12 n_fheld), (wI g n_targets 0 36 n_ftargets), (wI g n_weights 0 36 n_fweights), (wI g co_place 0 12 opc), (wO1 eq eq_rows eq_right ew), (wJ g eq_right 1 8 ofr), (wR g eq_rows 5 8 (fun i => if i < 8 then some (rr i) else none)), (wJ g (rr 0) 1 8 (oct 0)), (wJ g (rr 1) 1 8 (oct 1)), (wJ g (rr 2) 1 8 (oct 2)), (wJ g (rr 3) 1 8 (oct 3)), (wJ g (rr 4) 1 8 (oct 4)), (wJ g (rr 5) 1 8 (oct 5)), (wJ g (rr 6) 1 8 (oct 6)), (wJ g (rr 7) 1 8 (oct 7)), (wI g pl 0 12 plf)] t.heap ∧ va_D (va_A [(wO0 co n eq co_place), (wO2 n n_nodes n_kind n_pay n_name n_ways n_held n_targets n_weights), (wI g n_kind 0 12 n_fkind), (wI g n_pay 0 12 n_fpay), (wI g n_ways 0 12 n_fways), (wI g n_held 0 12 n_fheld), (wI g n_targets 0 36 n_ftargets), (wI g n_weights 0 36 n_fweights), (wI g co_place 0 12 pcf), (wO1 eq eq_rows eq_right ew), (wJ g eq_right 1 8 fr), (wR g eq_rows 5 8 (fun i => if i < 8 then some (rr i) else none)), (wJ g (rr 0) 1 8 (ct 0)), (wJ g (rr 1) 1 8 (ct 1)), (wJ g (rr 2) 1 8 (ct 2)), (wJ g (rr 3) 1 8 (ct 3)), (wJ g (rr 4) 1 8 (ct 4)), (wJ g (rr 5) 1 8 (ct 5)), (wJ g (rr 6) 1 8 (ct 6)), (wJ g (rr 7) 1 8 (ct 7)), (wI g pl 0 12 plf)] sz) [(wO0 co n eq co_place), (wO2 n n_nodes n_kind n_pay n_name n_ways n_held n_targets n_weights), (wI g n_kind 0 12 n_fkind), (wI g n_pay 0 12 n_fpay), (wI g n_ways 0 12 n_fways), (wI g n_held 0 12 n_fheld), (wI g n_targets 0 36 n_ftargets), (wI g n_weights 0 36 n_fweights), (wI g co_place 0 12 opc), (wO1 eq eq_rows eq_right ew), (wJ g eq_right 1 8 ofr), (wR g eq_rows 5 8 (fun i => if i < 8 then some (rr i) else none)), (wJ g (rr 0) 1 8 (oct 0)), (wJ g (rr 1) 1 8 (oct 1)), (wJ g (rr 2) 1 8 (oct 2)), (wJ g (rr 3) 1 8 (oct 3)), (wJ g (rr 4) 1 8 (oct 4)), (wJ g (rr 5) 1 8 (oct 5)), (wJ g (rr 6) 1 8 (oct 6)), (wJ g (rr 7) 1 8 (oct 7)), (wI g pl 0 12 plf)]) (va_A [(wO0 co n eq co_place), (wO2 n n_nodes n_kind n_pay n_name n_ways n_held n_targets n_weights), (wI g n_kind 0 12 n_fkind), (wI g n_pay 0 12 n_fpay), (wI g n_ways 0 12 n_fways), (wI g n_held 0 12 n_fheld), (wI g n_targets 0 36 n_ftargets), (wI g n_weights 0 36 n_fweights), (wI g co_place 0 12 pcf), (wO1 eq eq_rows eq_right ew), (wJ g eq_right 1 8 fr), (wR g eq_rows 5 8 (fun i => if i < 8 then some (rr i) else none)), (wJ g (rr 0) 1 8 (ct 0)), (wJ g (rr 1) 1 8 (ct 1)), (wJ g (rr 2) 1 8 (ct 2)), (wJ g (rr 3) 1 8 (ct 3)), (wJ g (rr 4) 1 8 (ct 4)), (wJ g (rr 5) 1 8 (ct 5)), (wJ g (rr 6) 1 8 (ct 6)), (wJ g (rr 7) 1 8 (ct 7)), (wI g pl 0 12 plf)] sz)) 0 0 (va_A [(wO0 co n eq co_place), (wO2 n n_nodes n_kind n_pay n_name n_ways n_held n_targets n_weights), (wI g n_kind 0 12 n_fkind), (wI g n_pay 0 12 n_fpay), (wI g n_ways 0 12 n_fways), (wI g n_held 0 12 n_fheld), (wI g n_targets 0 36 n_ftargets), (wI g n_weights 0 36 n_fweights), (wI g co_place 0 12 pcf), (wO1 eq eq_rows eq_right ew), (wJ g eq_right 1 8 fr), (wR g eq_rows 5 8 (fun i => if i < 8 then some (rr i) else none)), (wJ g (rr 0) 1 8 (ct 0)), (wJ g (rr 1) 1 8 (ct 1)), (wJ g (rr 2) 1 8 (ct 2)), (wJ g (rr 3) 1 8 (ct 3)), (wJ g (rr 4) 1 8 (ct 4)), (wJ g (rr 5) 1 8 (ct 5)), (wJ g (rr 6) 1 8 (ct 6)), (wJ g (rr 7) 1 8 (ct 7)), (wI g pl 0 12 plf)] sz) := by
  refine Met.ofW (cc := cX0_lay) (maxL := 10) (ret := (some .int)) (by decide) rfl ?_
  intro p e s m args below meth c s₁ B hml hv
  obtain ⟨ha, hsz, hP, hK, hD0⟩ := hv
  have hx := B.exec
  have hb := B.bytes
  have hr := B.returns
  have hts0 := atoms_spec (ws := (.code yX0_lay cX0_lay 10 (some .int) :: wsL_law)) B.pre
  have hts : ∀ w ∈ wsL_law, w.before args s = true := fun w h => hts0 w (List.mem_cons_of_mem _ h)
  have hown : s.vm.findClass RX0 = some m.cls := findClass_of_methodNamed B.named
  have hlocks := B.notSynchronized
  subst hsz
  have hD := hD0.self (sz := s.heap.size)
  generalize hAe : va_A [(wO0 co n eq co_place), (wO2 n n_nodes n_kind n_pay n_name n_ways n_held n_targets n_weights), (wI g n_kind 0 12 n_fkind), (wI g n_pay 0 12 n_fpay), (wI g n_ways 0 12 n_fways), (wI g n_held 0 12 n_fheld), (wI g n_targets 0 36 n_ftargets), (wI g n_weights 0 36 n_fweights), (wI g co_place 0 12 pcf), (wO1 eq eq_rows eq_right ew), (wJ g eq_right 1 8 fr), (wR g eq_rows 5 8 (fun i => if i < 8 then some (rr i) else none)), (wJ g (rr 0) 1 8 (ct 0)), (wJ g (rr 1) 1 8 (ct 1)), (wJ g (rr 2) 1 8 (ct 2)), (wJ g (rr 3) 1 8 (ct 3)), (wJ g (rr 4) 1 8 (ct 4)), (wJ g (rr 5) 1 8 (ct 5)), (wJ g (rr 6) 1 8 (ct 6)), (wJ g (rr 7) 1 8 (ct 7)), (wI g pl 0 12 plf)] s.heap.size = A at hD ⊢
  have hA : ∀ q : Nat, s.heap.size ≤ q → A q := fun q h => by rw [← hAe]; exact Or.inr h
  have hS : va_S A s.heap s.heap [] := va_S.rf
  have hP : va_P D vwCl [(wO0 co n eq co_place), (wO2 n n_nodes n_kind n_pay n_name n_ways n_held n_targets n_weights), (wI g n_kind 0 12 n_fkind), (wI g n_pay 0 12 n_fpay), (wI g n_ways 0 12 n_fways), (wI g n_held 0 12 n_fheld), (wI g n_targets 0 36 n_ftargets), (wI g n_weights 0 36 n_fweights), (wI g co_place 0 12 pcf), (wO1 eq eq_rows eq_right ew), (wJ g eq_right 1 8 fr), (wR g eq_rows 5 8 (fun i => if i < 8 then some (rr i) else none)), (wJ g (rr 0) 1 8 (ct 0)), (wJ g (rr 1) 1 8 (ct 1)), (wJ g (rr 2) 1 8 (ct 2)), (wJ g (rr 3) 1 8 (ct 3)), (wJ g (rr 4) 1 8 (ct 4)), (wJ g (rr 5) 1 8 (ct 5)), (wJ g (rr 6) 1 8 (ct 6)), (wJ g (rr 7) 1 8 (ct 7)), (wI g pl 0 12 plf)] s.heap := hP
  refine W.eq (g2 := entryFrame m ([.ref co, .ref pl, .int p0, .int p1, .int p2] : List Value).toArray 10) (by rw [ha]) ?_
  have hl := lv_entry ([.ref co, .ref pl, .int p0, .int p1, .int p2]) (n := 10) (Nat.le_of_ble_eq_true rfl)
  rw [lg_entry_eq]
  generalize (lg_sl ([.ref co, .ref pl, .int p0, .int p1, .int p2]) ++ List.replicate (10 - (lg_sl ([.ref co, .ref pl, .int p0, .int p1, .int p2])).length) Slot.unset).toArray = ls at hl ⊢
  have hl : lv_has ls 10 [(0, .ref co), (1, .ref pl), (2, .int p0), (3, .int p1), (4, .int p2)] := hl
  refine lv_aload_n hx hb dX0_lay_0 rfl (lv_at hl 0 rfl) ?_
  refine va_get (D := D) (ci := 0) (v := .ref eq) (C := RX0) (T := TX0) (N := 3) hx hb hts inlX0 hown hK hP 0 rfl rfl 1 (by decide) (hts (Cond.fieldLink RX0 12 "ChanceRings$Course" "equations" "LChanceRings$Equations;") qw_497) (fun _ h9 => h9) rfl dX0_lay_1 ?_
  have hPc := hP.sub (ws' := [(wO1 eq eq_rows eq_right ew), (wJ g eq_right 1 8 fr), (wR g eq_rows 5 8 (fun i => if i < 8 then some (rr i) else none)), (wJ g (rr 0) 1 8 (ct 0)), (wJ g (rr 1) 1 8 (ct 1)), (wJ g (rr 2) 1 8 (ct 2)), (wJ g (rr 3) 1 8 (ct 3)), (wJ g (rr 4) 1 8 (ct 4)), (wJ g (rr 5) 1 8 (ct 5)), (wJ g (rr 6) 1 8 (ct 6)), (wJ g (rr 7) 1 8 (ct 7))]) [9, 10, 11, 12, 13, 14, 15, 16, 17, 18, 19] rfl
  have hDc := hD.sub (ws' := [(wO1 eq eq_rows eq_right ew), (wJ g eq_right 1 8 fr), (wR g eq_rows 5 8 (fun i => if i < 8 then some (rr i) else none)), (wJ g (rr 0) 1 8 (ct 0)), (wJ g (rr 1) 1 8 (ct 1)), (wJ g (rr 2) 1 8 (ct 2)), (wJ g (rr 3) 1 8 (ct 3)), (wJ g (rr 4) 1 8 (ct 4)), (wJ g (rr 5) 1 8 (ct 5)), (wJ g (rr 6) 1 8 (ct 6)), (wJ g (rr 7) 1 8 (ct 7))]) [9, 10, 11, 12, 13, 14, 15, 16, 17, 18, 19] (by decide) rfl
  have hFc := va_free (wc := [(wO1 eq eq_rows eq_right ew), (wJ g eq_right 1 8 fr), (wR g eq_rows 5 8 (fun i => if i < 8 then some (rr i) else none)), (wJ g (rr 0) 1 8 (ct 0)), (wJ g (rr 1) 1 8 (ct 1)), (wJ g (rr 2) 1 8 (ct 2)), (wJ g (rr 3) 1 8 (ct 3)), (wJ g (rr 4) 1 8 (ct 4)), (wJ g (rr 5) 1 8 (ct 5)), (wJ g (rr 6) 1 8 (ct 6)), (wJ g (rr 7) 1 8 (ct 7))]) hD hS hA [9, 10, 11, 12, 13, 14, 15, 16, 17, 18, 19] rfl
  refine va_callv (va_runV (As := []) (rest := []) ⟨hx, hb, hml, hown, hts⟩ (c_X1_clear l D g s.heap.size eq eq_rows eq_right ew fr rr ct) (cwV 0 hts (tz_gV qw_498 qw_499 qw_500 qw_482 qw_501) rfl rfl rfl (by decide +kernel) ⟨Nat.le_of_ble_eq_true rfl, Nat.le_of_ble_eq_true rfl⟩) ⟨tz_blQ, va_recv hK hPc (ci := 1) (q0 := 0) rfl rfl, tz_preQ hPc hK hDc⟩ rfl rfl hl.1 rfl (lv_room (Nat.le_of_ble_eq_true rfl)) dX0_lay_4 ⟨Nat.le_of_ble_eq_true rfl, Nat.le_of_ble_eq_true rfl⟩) hS (fun q _ h => hFc q h) hFc (fun u t H1 locs ht hvm hw hB hz1 hk1 hS => ?_)
  obtain ⟨ofr_66396, oct_66397, hP1, hD1⟩ := hB
  rw [ht] at hP1
  obtain ⟨hP, hD⟩ := va_join (wr := [(wO0 co n eq co_place), (wO2 n n_nodes n_kind n_pay n_name n_ways n_held n_targets n_weights), (wI g n_kind 0 12 n_fkind), (wI g n_pay 0 12 n_fpay), (wI g n_ways 0 12 n_fways), (wI g n_held 0 12 n_fheld), (wI g n_targets 0 36 n_ftargets), (wI g n_weights 0 36 n_fweights), (wI g co_place 0 12 pcf), (wI g pl 0 12 plf)]) (w1 := [(wO1 eq eq_rows eq_right ew), (wJ g eq_right 1 8 ofr_66396), (wR g eq_rows 5 8 (fun i => if i < 8 then some (rr i) else none)), (wJ g (rr 0) 1 8 (oct_66397 0)), (wJ g (rr 1) 1 8 (oct_66397 1)), (wJ g (rr 2) 1 8 (oct_66397 2)), (wJ g (rr 3) 1 8 (oct_66397 3)), (wJ g (rr 4) 1 8 (oct_66397 4)), (wJ g (rr 5) 1 8 (oct_66397 5)), (wJ g (rr 6) 1 8 (oct_66397 6)), (wJ g (rr 7) 1 8 (oct_66397 7))]) hP hD [9, 10, 11, 12, 13, 14, 15, 16, 17, 18, 19] [0, 1, 2, 3, 4, 5, 6, 7, 8, 20] rfl rfl (by decide) (by decide) hk1 hFc hP1 hD1
  generalize H1 = H at hP hS ⊢
  have hP : va_P D vwCl [(wO0 co n eq co_place), (wO2 n n_nodes n_kind n_pay n_name n_ways n_held n_targets n_weights), (wI g n_kind 0 12 n_fkind), (wI g n_pay 0 12 n_fpay), (wI g n_ways 0 12 n_fways), (wI g n_held 0 12 n_fheld), (wI g n_targets 0 36 n_ftargets), (wI g n_weights 0 36 n_fweights), (wI g co_place 0 12 pcf), (wI g pl 0 12 plf), (wO1 eq eq_rows eq_right ew), (wJ g eq_right 1 8 ofr_66396), (wR g eq_rows 5 8 (fun i => if i < 8 then some (rr i) else none)), (wJ g (rr 0) 1 8 (oct_66397 0)), (wJ g (rr 1) 1 8 (oct_66397 1)), (wJ g (rr 2) 1 8 (oct_66397 2)), (wJ g (rr 3) 1 8 (oct_66397 3)), (wJ g (rr 4) 1 8 (oct_66397 4)), (wJ g (rr 5) 1 8 (oct_66397 5)), (wJ g (rr 6) 1 8 (oct_66397 6)), (wJ g (rr 7) 1 8 (oct_66397 7))] H := hP
  have hD : va_D A [(wO0 co n eq co_place), (wO2 n n_nodes n_kind n_pay n_name n_ways n_held n_targets n_weights), (wI g n_kind 0 12 n_fkind), (wI g n_pay 0 12 n_fpay), (wI g n_ways 0 12 n_fways), (wI g n_held 0 12 n_fheld), (wI g n_targets 0 36 n_ftargets), (wI g n_weights 0 36 n_fweights), (wI g co_place 0 12 pcf), (wI g pl 0 12 plf), (wO1 eq eq_rows eq_right ew), (wJ g eq_right 1 8 ofr_66396), (wR g eq_rows 5 8 (fun i => if i < 8 then some (rr i) else none)), (wJ g (rr 0) 1 8 (oct_66397 0)), (wJ g (rr 1) 1 8 (oct_66397 1)), (wJ g (rr 2) 1 8 (oct_66397 2)), (wJ g (rr 3) 1 8 (oct_66397 3)), (wJ g (rr 4) 1 8 (oct_66397 4)), (wJ g (rr 5) 1 8 (oct_66397 5)), (wJ g (rr 6) 1 8 (oct_66397 6)), (wJ g (rr 7) 1 8 (oct_66397 7))] := hD
  refine lv_aload_n hx hb dX0_lay_7 rfl (lv_at hl 0 rfl) ?_
  refine lv_iload_n hx hb dX0_lay_8 rfl (lv_at hl 2 rfl) ?_
  have hPc := hP.sub (ws' := [(wO0 co n eq co_place), (wO2 n n_nodes n_kind n_pay n_name n_ways n_held n_targets n_weights), (wI g n_kind 0 12 n_fkind), (wI g co_place 0 12 pcf)]) [0, 1, 2, 8] rfl
  have hDc := hD.sub (ws' := [(wO0 co n eq co_place), (wO2 n n_nodes n_kind n_pay n_name n_ways n_held n_targets n_weights), (wI g n_kind 0 12 n_fkind), (wI g co_place 0 12 pcf)]) [0, 1, 2, 8] (by decide) rfl
  have hFc := va_free (wc := [(wO0 co n eq co_place), (wO2 n n_nodes n_kind n_pay n_name n_ways n_held n_targets n_weights), (wI g n_kind 0 12 n_fkind), (wI g co_place 0 12 pcf)]) hD hS hA [0, 1, 2, 8] rfl
  refine va_calli (va_runV (As := [.int p0]) (rest := []) ⟨hx, hb, hml, hown, hts⟩ (c_X0_placeOpen l D g H.size co p0 n eq co_place n_nodes n_kind n_pay n_name n_ways n_held n_targets n_weights n_fkind pcf (tr_w h_n_nodes (by decide) (by decide)) (tr_wa h_n_fkind (by decide) (by decide)) (tr_wa h_pcf (by decide) (by decide))) (cwV 1 hts (tz_gV qw_502 qw_503 qw_504 qw_470 qw_505) rfl rfl rfl (by decide +kernel) ⟨Nat.le_of_ble_eq_true rfl, Nat.le_of_ble_eq_true rfl⟩) ⟨tz_blQ, va_recv hK hPc (ci := 0) (q0 := 0) rfl rfl, tz_preQ hPc hK hDc⟩ rfl rfl hl.1 rfl (lv_room (Nat.le_of_ble_eq_true rfl)) dX0_lay_9 ⟨Nat.le_of_ble_eq_true rfl, Nat.le_of_ble_eq_true rfl⟩) hS (fun q _ h => hFc q h) hFc (fun r_66398 u t H1 locs ht hvm hw hB hz1 hk1 hS => ?_)
  obtain ⟨opc_66399, hf_66400, hP1, hD1⟩ := hB
  rw [ht] at hP1
  obtain ⟨hP, hD⟩ := va_join (wr := [(wI g n_pay 0 12 n_fpay), (wI g n_ways 0 12 n_fways), (wI g n_held 0 12 n_fheld), (wI g n_targets 0 36 n_ftargets), (wI g n_weights 0 36 n_fweights), (wI g pl 0 12 plf), (wO1 eq eq_rows eq_right ew), (wJ g eq_right 1 8 ofr_66396), (wR g eq_rows 5 8 (fun i => if i < 8 then some (rr i) else none)), (wJ g (rr 0) 1 8 (oct_66397 0)), (wJ g (rr 1) 1 8 (oct_66397 1)), (wJ g (rr 2) 1 8 (oct_66397 2)), (wJ g (rr 3) 1 8 (oct_66397 3)), (wJ g (rr 4) 1 8 (oct_66397 4)), (wJ g (rr 5) 1 8 (oct_66397 5)), (wJ g (rr 6) 1 8 (oct_66397 6)), (wJ g (rr 7) 1 8 (oct_66397 7))]) (w1 := [(wO0 co n eq co_place), (wO2 n n_nodes n_kind n_pay n_name n_ways n_held n_targets n_weights), (wI g n_kind 0 12 n_fkind), (wI g co_place 0 12 opc_66399)]) hP hD [0, 1, 2, 8] [3, 4, 5, 6, 7, 9, 10, 11, 12, 13, 14, 15, 16, 17, 18, 19, 20] rfl rfl (by decide) (by decide) hk1 hFc hP1 hD1
  generalize H1 = H at hP hS ⊢
  have hP : va_P D vwCl [(wI g n_pay 0 12 n_fpay), (wI g n_ways 0 12 n_fways), (wI g n_held 0 12 n_fheld), (wI g n_targets 0 36 n_ftargets), (wI g n_weights 0 36 n_fweights), (wI g pl 0 12 plf), (wO1 eq eq_rows eq_right ew), (wJ g eq_right 1 8 ofr_66396), (wR g eq_rows 5 8 (fun i => if i < 8 then some (rr i) else none)), (wJ g (rr 0) 1 8 (oct_66397 0)), (wJ g (rr 1) 1 8 (oct_66397 1)), (wJ g (rr 2) 1 8 (oct_66397 2)), (wJ g (rr 3) 1 8 (oct_66397 3)), (wJ g (rr 4) 1 8 (oct_66397 4)), (wJ g (rr 5) 1 8 (oct_66397 5)), (wJ g (rr 6) 1 8 (oct_66397 6)), (wJ g (rr 7) 1 8 (oct_66397 7)), (wO0 co n eq co_place), (wO2 n n_nodes n_kind n_pay n_name n_ways n_held n_targets n_weights), (wI g n_kind 0 12 n_fkind), (wI g co_place 0 12 opc_66399)] H := hP
  have hD : va_D A [(wI g n_pay 0 12 n_fpay), (wI g n_ways 0 12 n_fways), (wI g n_held 0 12 n_fheld), (wI g n_targets 0 36 n_ftargets), (wI g n_weights 0 36 n_fweights), (wI g pl 0 12 plf), (wO1 eq eq_rows eq_right ew), (wJ g eq_right 1 8 ofr_66396), (wR g eq_rows 5 8 (fun i => if i < 8 then some (rr i) else none)), (wJ g (rr 0) 1 8 (oct_66397 0)), (wJ g (rr 1) 1 8 (oct_66397 1)), (wJ g (rr 2) 1 8 (oct_66397 2)), (wJ g (rr 3) 1 8 (oct_66397 3)), (wJ g (rr 4) 1 8 (oct_66397 4)), (wJ g (rr 5) 1 8 (oct_66397 5)), (wJ g (rr 6) 1 8 (oct_66397 6)), (wJ g (rr 7) 1 8 (oct_66397 7)), (wO0 co n eq co_place), (wO2 n n_nodes n_kind n_pay n_name n_ways n_held n_targets n_weights), (wI g n_kind 0 12 n_fkind), (wI g co_place 0 12 opc_66399)] := hD
  have hw_66401 : 0 ≤ (r_66398 : Int32).toInt ∧ (r_66398 : Int32).toInt ≤ 8 := hw
  refine lv_istore (lv' := [(5, .int r_66398), (0, .ref co), (1, .ref pl), (2, .int p0), (3, .int p1), (4, .int p2)]) hx hb dX0_lay_12 hl (by decide) rfl (fun ls hl => ?_)
  refine lv_iconst (v := 0) hx hb dX0_lay_14 (by decide) ?_
  refine lv_istore (lv' := [(6, .int 0), (5, .int r_66398), (0, .ref co), (1, .ref pl), (2, .int p0), (3, .int p1), (4, .int p2)]) hx hb dX0_lay_15 hl (by decide) rfl (fun ls hl => ?_)
  have lp_67364 : ∀ (n_67364 : Nat) (x_67362 : Int32) (ct_67363 : Nat → Nat → Int64) (H : Heap) (locs : List Loc) (ls : Array Slot), (0 ≤ (x_67362 : Int32).toInt ∧ (x_67362 : Int32).toInt ≤ 12) → (12 - x_67362.toInt < (n_67364 : Int)) → va_P D vwCl [(wI g n_pay 0 12 n_fpay), (wI g n_ways 0 12 n_fways), (wI g n_held 0 12 n_fheld), (wI g n_targets 0 36 n_ftargets), (wI g n_weights 0 36 n_fweights), (wI g pl 0 12 plf), (wO1 eq eq_rows eq_right ew), (wJ g eq_right 1 8 ofr_66396), (wR g eq_rows 5 8 (fun i => if i < 8 then some (rr i) else none)), (wJ g (rr 0) 1 8 (ct_67363 0)), (wJ g (rr 1) 1 8 (ct_67363 1)), (wJ g (rr 2) 1 8 (ct_67363 2)), (wJ g (rr 3) 1 8 (ct_67363 3)), (wJ g (rr 4) 1 8 (ct_67363 4)), (wJ g (rr 5) 1 8 (ct_67363 5)), (wJ g (rr 6) 1 8 (ct_67363 6)), (wJ g (rr 7) 1 8 (ct_67363 7)), (wO0 co n eq co_place), (wO2 n n_nodes n_kind n_pay n_name n_ways n_held n_targets n_weights), (wI g n_kind 0 12 n_fkind), (wI g co_place 0 12 opc_66399)] H → va_D A [(wI g n_pay 0 12 n_fpay), (wI g n_ways 0 12 n_fways), (wI g n_held 0 12 n_fheld), (wI g n_targets 0 36 n_ftargets), (wI g n_weights 0 36 n_fweights), (wI g pl 0 12 plf), (wO1 eq eq_rows eq_right ew), (wJ g eq_right 1 8 ofr_66396), (wR g eq_rows 5 8 (fun i => if i < 8 then some (rr i) else none)), (wJ g (rr 0) 1 8 (ct_67363 0)), (wJ g (rr 1) 1 8 (ct_67363 1)), (wJ g (rr 2) 1 8 (ct_67363 2)), (wJ g (rr 3) 1 8 (ct_67363 3)), (wJ g (rr 4) 1 8 (ct_67363 4)), (wJ g (rr 5) 1 8 (ct_67363 5)), (wJ g (rr 6) 1 8 (ct_67363 6)), (wJ g (rr 7) 1 8 (ct_67363 7)), (wO0 co n eq co_place), (wO2 n n_nodes n_kind n_pay n_name n_ways n_held n_targets n_weights), (wI g n_kind 0 12 n_fkind), (wI g co_place 0 12 opc_66399)] → va_S A s.heap H locs → lv_has ls 10 [(6, .int x_67362), (5, .int r_66398), (0, .ref co), (1, .ref pl), (2, .int p0), (3, .int p1), (4, .int p2)] → W p l e (headSpec (.code yX0_lay cX0_lay 10 (some .int) :: wsL_law) ({ frames := 1, cells := 0, slots := 0, locals := 23 })).room s m args below meth c H locs 0 0 (MQ below (va_Qi (fun r (_ : Unit) => 0 ≤ (r : Int32).toInt ∧ (r : Int32).toInt ≤ 8) (fun _ t => ∃ opc : Nat → Int32, ∃ ofr : Nat → Int64, ∃ oct : Nat → Nat → Int64, (∀ j : Nat, (-1) ≤ (opc j).toInt ∧ (opc j).toInt ≤ 7) ∧ va_P D vwCl [(wO0 co n eq co_place), (wO2 n n_nodes n_kind n_pay n_name n_ways n_held n_targets n_weights), (wI g n_kind 0 12 n_fkind), (wI g n_pay 0 12 n_fpay), (wI g n_ways 0 12 n_fways), (wI g n_held 0 12 n_fheld), (wI g n_targets 0 36 n_ftargets), (wI g n_weights 0 36 n_fweights), (wI g co_place 0 12 opc), (wO1 eq eq_rows eq_right ew), (wJ g eq_right 1 8 ofr), (wR g eq_rows 5 8 (fun i => if i < 8 then some (rr i) else none)), (wJ g (rr 0) 1 8 (oct 0)), (wJ g (rr 1) 1 8 (oct 1)), (wJ g (rr 2) 1 8 (oct 2)), (wJ g (rr 3) 1 8 (oct 3)), (wJ g (rr 4) 1 8 (oct 4)), (wJ g (rr 5) 1 8 (oct 5)), (wJ g (rr 6) 1 8 (oct 6)), (wJ g (rr 7) 1 8 (oct 7)), (wI g pl 0 12 plf)] t.heap ∧ va_D A [(wO0 co n eq co_place), (wO2 n n_nodes n_kind n_pay n_name n_ways n_held n_targets n_weights), (wI g n_kind 0 12 n_fkind), (wI g n_pay 0 12 n_fpay), (wI g n_ways 0 12 n_fways), (wI g n_held 0 12 n_fheld), (wI g n_targets 0 36 n_ftargets), (wI g n_weights 0 36 n_fweights), (wI g co_place 0 12 opc), (wO1 eq eq_rows eq_right ew), (wJ g eq_right 1 8 ofr), (wR g eq_rows 5 8 (fun i => if i < 8 then some (rr i) else none)), (wJ g (rr 0) 1 8 (oct 0)), (wJ g (rr 1) 1 8 (oct 1)), (wJ g (rr 2) 1 8 (oct 2)), (wJ g (rr 3) 1 8 (oct 3)), (wJ g (rr 4) 1 8 (oct 4)), (wJ g (rr 5) 1 8 (oct 5)), (wJ g (rr 6) 1 8 (oct 6)), (wJ g (rr 7) 1 8 (oct 7)), (wI g pl 0 12 plf)]) A) args s 0 0 A) (F0 m 17 ls []) := by
    intro n_67364
    induction n_67364 with
    | zero =>
      intro x_67362 ct_67363 H locs ls h_x_67362 hm_67364 hP hD hS hl
      exfalso; omega
    | succ n_67364 ih_67364 =>
      intro x_67362 ct_67363 H locs ls h_x_67362 hm_67364 hP hD hS hl
      refine lv_iload hx hb dX0_lay_17 (lv_at hl 0 rfl) ?_
      refine lv_aload_n hx hb dX0_lay_19 rfl (lv_at hl 2 rfl) ?_
      refine va_get (D := D) (ci := 0) (v := .ref n) (C := RX0) (T := TX0) (N := 3) hx hb hts inlX0 hown hK hP 17 rfl rfl 0 (by decide) (hts (Cond.fieldLink RX0 22 "ChanceRings$Course" "net" "LChanceRings$Net;") qw_463) (fun _ h9 => h9) rfl dX0_lay_20 ?_
      refine va_get (D := D) (ci := 2) (v := .int n_nodes) (C := RX2) (T := TX2) (N := 8) hx hb hts inlX2 hown hK hP 18 rfl rfl 0 (by decide) (hts (Cond.fieldLink RX0 49 "ChanceRings$Net" "nodes" "I") qw_473) (fun _ h9 => h9) rfl dX0_lay_23 ?_
      refine lv_icmp_ge (tgt := 154) hx hb dX0_lay_26 (by decide) (fun c_67365 => ?_) (fun c_67365 => ?_)
      · skip
        refine lv_iload hx hb dX0_lay_154 (lv_at hl 1 rfl) ?_
        have hP9 := hP.sub (ws' := [(wO0 co n eq co_place), (wO2 n n_nodes n_kind n_pay n_name n_ways n_held n_targets n_weights), (wI g n_kind 0 12 n_fkind), (wI g n_pay 0 12 n_fpay), (wI g n_ways 0 12 n_fways), (wI g n_held 0 12 n_fheld), (wI g n_targets 0 36 n_ftargets), (wI g n_weights 0 36 n_fweights), (wI g co_place 0 12 opc_66399), (wO1 eq eq_rows eq_right ew), (wJ g eq_right 1 8 ofr_66396), (wR g eq_rows 5 8 (fun i => if i < 8 then some (rr i) else none)), (wJ g (rr 0) 1 8 (ct_67363 0)), (wJ g (rr 1) 1 8 (ct_67363 1)), (wJ g (rr 2) 1 8 (ct_67363 2)), (wJ g (rr 3) 1 8 (ct_67363 3)), (wJ g (rr 4) 1 8 (ct_67363 4)), (wJ g (rr 5) 1 8 (ct_67363 5)), (wJ g (rr 6) 1 8 (ct_67363 6)), (wJ g (rr 7) 1 8 (ct_67363 7)), (wI g pl 0 12 plf)]) [17, 18, 19, 0, 1, 2, 3, 4, 20, 6, 7, 8, 9, 10, 11, 12, 13, 14, 15, 16, 5] rfl
        have hD9 := hD.sub (ws' := [(wO0 co n eq co_place), (wO2 n n_nodes n_kind n_pay n_name n_ways n_held n_targets n_weights), (wI g n_kind 0 12 n_fkind), (wI g n_pay 0 12 n_fpay), (wI g n_ways 0 12 n_fways), (wI g n_held 0 12 n_fheld), (wI g n_targets 0 36 n_ftargets), (wI g n_weights 0 36 n_fweights), (wI g co_place 0 12 opc_66399), (wO1 eq eq_rows eq_right ew), (wJ g eq_right 1 8 ofr_66396), (wR g eq_rows 5 8 (fun i => if i < 8 then some (rr i) else none)), (wJ g (rr 0) 1 8 (ct_67363 0)), (wJ g (rr 1) 1 8 (ct_67363 1)), (wJ g (rr 2) 1 8 (ct_67363 2)), (wJ g (rr 3) 1 8 (ct_67363 3)), (wJ g (rr 4) 1 8 (ct_67363 4)), (wJ g (rr 5) 1 8 (ct_67363 5)), (wJ g (rr 6) 1 8 (ct_67363 6)), (wJ g (rr 7) 1 8 (ct_67363 7)), (wI g pl 0 12 plf)]) [17, 18, 19, 0, 1, 2, 3, 4, 20, 6, 7, 8, 9, 10, 11, 12, 13, 14, 15, 16, 5] (by decide) rfl
        exact W.iret (v := r_66398) hx hb hr (fun t ht hW => ⟨⟨r_66398, (), rfl, (tr_w hw_66401 (by decide) (by decide)), opc_66399, ofr_66396, ct_67363, (tr_wa hf_66400 (by decide) (by decide)), by rw [ht]; exact hP9, hD9⟩, hS.F ht⟩) hS.2.2 dX0_lay_156
      · skip
        have c_67365_i := Int32.lt_iff_toInt_lt.mp (Int32.not_le.mp c_67365)
        have h_67366 : 0 ≤ (x_67362 : Int32).toInt ∧ (x_67362 : Int32).toInt ≤ 11 := nr_lt_l h_x_67362 h_n_nodes c_67365_i (by decide) (by decide)
        have h_67367 : 1 ≤ (n_nodes : Int32).toInt ∧ (n_nodes : Int32).toInt ≤ 12 := nr_lt_r h_x_67362 h_n_nodes c_67365_i (by decide) (by decide)
        refine lv_aload_n hx hb dX0_lay_29 rfl (lv_at hl 2 rfl) ?_
        refine va_get (D := D) (ci := 0) (v := .ref co_place) (C := RX0) (T := TX0) (N := 3) hx hb hts inlX0 hown hK hP 17 rfl rfl 2 (by decide) (hts (Cond.fieldLink RX0 18 "ChanceRings$Course" "place" "[I") qw_474) (fun _ h9 => h9) rfl dX0_lay_30 ?_
        refine lv_iload hx hb dX0_lay_33 (lv_at hl 0 rfl) ?_
        refine va_iald hx hb hK hP 20 0 rfl rfl (tr_in h_67366 (by decide) (by decide)) dX0_lay_35 ?_
        refine lv_topi (fun v_67368 v_67368_e => ?_)
        have h_v_67368 : (-1) ≤ (v_67368 : Int32).toInt ∧ (v_67368 : Int32).toInt ≤ 7 := by rw [v_67368_e]; exact hf_66400 _
        refine lv_istore (lv' := [(7, .int v_67368), (6, .int x_67362), (5, .int r_66398), (0, .ref co), (1, .ref pl), (2, .int p0), (3, .int p1), (4, .int p2)]) hx hb dX0_lay_36 hl (by decide) rfl (fun ls hl => ?_)
        refine lv_iload hx hb dX0_lay_38 (lv_at hl 0 rfl) ?_
        refine lv_iconst (v := (-1)) hx hb dX0_lay_40 (by decide) ?_
        refine lv_icmp_eq (tgt := 148) hx hb dX0_lay_41 (by decide) (fun c_67369 => ?_) (fun c_67369 => ?_)
        · skip
          have c_67369_i : (v_67368 : Int32).toInt = ((-1) : Int32).toInt := congrArg Int32.toInt c_67369
          have h_67370 : (-1) ≤ (v_67368 : Int32).toInt ∧ (v_67368 : Int32).toInt ≤ (-1) := nr_eq_l h_v_67368 (⟨by decide, by decide⟩ : (-1) ≤ ((-1) : Int32).toInt ∧ ((-1) : Int32).toInt ≤ (-1)) c_67369_i (by decide) (by decide)
          obtain ⟨v_67372, v_67372_e⟩ : ∃ y : Int32, y = x_67362 + Int32.ofInt 1 := ⟨_, rfl⟩
          have h_v_67372 : 1 ≤ (v_67372 : Int32).toInt ∧ (v_67372 : Int32).toInt ≤ 12 := by rw [v_67372_e]; exact tr_add h_67366 (⟨by decide, by decide⟩ : 1 ≤ (Int32.ofInt 1 : Int32).toInt ∧ (Int32.ofInt 1 : Int32).toInt ≤ 1) (by decide) (by decide) (by decide) (by decide)
          have q_v_67372 : v_67372.toInt = x_67362.toInt + 1 := by rw [v_67372_e]; exact tr_addE h_67366 (⟨by decide, by decide⟩ : 1 ≤ (Int32.ofInt 1 : Int32).toInt ∧ (Int32.ofInt 1 : Int32).toInt ≤ 1) (by decide) (by decide)
          refine lv_iinc (v := v_67372) (lv' := [(6, .int v_67372), (7, .int v_67368), (5, .int r_66398), (0, .ref co), (1, .ref pl), (2, .int p0), (3, .int p1), (4, .int p2)]) hx hb dX0_lay_148 hl (k := 1) rfl v_67372_e.symm (by decide) rfl (fun ls hl => ?_)
          refine lv_goto (tgt := 17) hx hb dX0_lay_151 (by decide) ?_
          exact ih_67364 v_67372 ct_67363 H _ ls (tr_w h_v_67372 (by decide) (by decide)) (by (first | (clear hw_66401 h_v_67368 c_67369_i h_67370; omega) | omega)) (hP.sub [0, 1, 2, 3, 4, 5, 6, 7, 8, 9, 10, 11, 12, 13, 14, 15, 16, 17, 18, 19, 20] rfl) (hD.sub [0, 1, 2, 3, 4, 5, 6, 7, 8, 9, 10, 11, 12, 13, 14, 15, 16, 17, 18, 19, 20] (by decide) rfl) hS (lv_sub hl [0, 2, 3, 4, 5, 6, 7] rfl)
        · skip
          have c_67369_i : ¬ (v_67368 : Int32).toInt = ((-1) : Int32).toInt := (fun q => c_67369 (Int32.toInt_inj.mp q))
          have h_67371 : 0 ≤ (v_67368 : Int32).toInt ∧ (v_67368 : Int32).toInt ≤ 7 := nr_ne_l h_v_67368 (⟨by decide, by decide⟩ : (-1) ≤ ((-1) : Int32).toInt ∧ ((-1) : Int32).toInt ≤ (-1)) c_67369_i (by decide) (by decide)
          refine lv_aload_n hx hb dX0_lay_44 rfl (lv_at hl 3 rfl) ?_
          refine va_get (D := D) (ci := 0) (v := .ref eq) (C := RX0) (T := TX0) (N := 3) hx hb hts inlX0 hown hK hP 17 rfl rfl 1 (by decide) (hts (Cond.fieldLink RX0 12 "ChanceRings$Course" "equations" "LChanceRings$Equations;") qw_497) (fun _ h9 => h9) rfl dX0_lay_45 ?_
          refine va_get (D := D) (ci := 1) (v := .ref eq_rows) (C := RX1) (T := TX1) (N := 3) hx hb hts inlX1 hown hK hP 6 rfl rfl 0 (by decide) (hts (Cond.fieldLink RX0 87 "ChanceRings$Equations" "rows" "[[J") qw_506) (fun _ h9 => h9) rfl dX0_lay_48 ?_
          refine lv_iload hx hb dX0_lay_51 (lv_at hl 0 rfl) ?_
          refine va_ald2 hx hb hK hP 8 5 rfl rfl (tr_in h_67371 (by decide) (by decide)) dX0_lay_53 ?_
          refine tz_v (y := .ref (rr (v_67368 : Int32).toNatClampNeg)) (tz_row rfl (tr_cl (tr_in h_67371 (by decide) (by decide)))) ?_
          refine lv_iload hx hb dX0_lay_54 (lv_at hl 0 rfl) ?_
          refine lv_iload hx hb dX0_lay_56 (lv_at hl 7 rfl) ?_
          refine lv_i2l hx hb dX0_lay_58 rfl ?_
          refine lv_topl (fun w_67373 _ => ?_)
          refine lv_aload_n hx hb dX0_lay_59 rfl (lv_at hl 3 rfl) ?_
          refine va_get (D := D) (ci := 0) (v := .ref n) (C := RX0) (T := TX0) (N := 3) hx hb hts inlX0 hown hK hP 17 rfl rfl 0 (by decide) (hts (Cond.fieldLink RX0 22 "ChanceRings$Course" "net" "LChanceRings$Net;") qw_463) (fun _ h9 => h9) rfl dX0_lay_60 ?_
          refine lv_iload hx hb dX0_lay_63 (lv_at hl 1 rfl) ?_
          have hPc := hP.sub (ws' := [(wO2 n n_nodes n_kind n_pay n_name n_ways n_held n_targets n_weights), (wI g n_kind 0 12 n_fkind), (wI g n_ways 0 12 n_fways), (wI g n_weights 0 36 n_fweights)]) [18, 19, 1, 4] rfl
          refine vp_callSi (va_Run.run (va_runV (As := [.int x_67362]) (rest := [.long w_67373, .int v_67368, .ref (rr (v_67368 : Int32).toNatClampNeg)]) ⟨hx, hb, hml, hown, hts⟩ (c_X2_together l D g n x_67362 n_nodes n_kind n_pay n_name n_ways n_held n_targets n_weights n_fkind n_fways n_fweights (tr_w h_67366 (by decide) (by decide)) (tr_w h_67367 (by decide) (by decide)) (tr_wa h_n_fkind (by decide) (by decide)) (tr_wa h_n_fways (by decide) (by decide))) (cwV 1 hts (tz_gV qw_507 qw_425 qw_426 qw_322 qw_427) rfl rfl rfl (by decide +kernel) ⟨Nat.le_of_ble_eq_true rfl, Nat.le_of_ble_eq_true rfl⟩) ⟨tz_blS, va_recv hK hPc (ci := 2) (q0 := 0) rfl rfl, tz_preS hPc hK⟩ rfl rfl hl.1 rfl (lv_room (Nat.le_of_ble_eq_true rfl)) dX0_lay_65 ⟨Nat.le_of_ble_eq_true rfl, Nat.le_of_ble_eq_true rfl⟩)) (fun r_67374 hw => ?_)
          refine lv_i2l hx hb dX0_lay_68 rfl ?_
          refine lv_topl (fun w_67375 _ => ?_)
          refine lv_lmul hx hb dX0_lay_69 ?_
          refine lv_topl (fun w_67376 _ => ?_)
          refine tq_ast (WS := (fun ct9 : Nat → Nat → Int64 => [(wI g n_pay 0 12 n_fpay), (wI g n_ways 0 12 n_fways), (wI g n_held 0 12 n_fheld), (wI g n_targets 0 36 n_ftargets), (wI g n_weights 0 36 n_fweights), (wI g pl 0 12 plf), (wO1 eq eq_rows eq_right ew), (wJ g eq_right 1 8 ofr_66396), (wR g eq_rows 5 8 (fun i => if i < 8 then some (rr i) else none)), (wJ g (rr 0) 1 8 (ct9 0)), (wJ g (rr 1) 1 8 (ct9 1)), (wJ g (rr 2) 1 8 (ct9 2)), (wJ g (rr 3) 1 8 (ct9 3)), (wJ g (rr 4) 1 8 (ct9 4)), (wJ g (rr 5) 1 8 (ct9 5)), (wJ g (rr 6) 1 8 (ct9 6)), (wJ g (rr 7) 1 8 (ct9 7)), (wO0 co n eq co_place), (wO2 n n_nodes n_kind n_pay n_name n_ways n_held n_targets n_weights), (wI g n_kind 0 12 n_fkind), (wI g co_place 0 12 opc_66399)])) (ct := ct_67363) hx hb hK hP hD hS 9 (fun ct i hi => by rcases nr_8 hi with rfl | rfl | rfl | rfl | rfl | rfl | rfl | rfl <;> rfl) (fun ct i f9 hi => by rcases nr_8 hi with rfl | rfl | rfl | rfl | rfl | rfl | rfl | rfl <;> rfl) (tr_in h_67371 (by decide) (by decide)) (tr_in h_67371 (by decide) (by decide)) dX0_lay_70 (fun ct_67377 H locs hP hD hS => ?_)
          have hP : va_P D vwCl [(wI g n_pay 0 12 n_fpay), (wI g n_ways 0 12 n_fways), (wI g n_held 0 12 n_fheld), (wI g n_targets 0 36 n_ftargets), (wI g n_weights 0 36 n_fweights), (wI g pl 0 12 plf), (wO1 eq eq_rows eq_right ew), (wJ g eq_right 1 8 ofr_66396), (wR g eq_rows 5 8 (fun i => if i < 8 then some (rr i) else none)), (wJ g (rr 0) 1 8 (ct_67377 0)), (wJ g (rr 1) 1 8 (ct_67377 1)), (wJ g (rr 2) 1 8 (ct_67377 2)), (wJ g (rr 3) 1 8 (ct_67377 3)), (wJ g (rr 4) 1 8 (ct_67377 4)), (wJ g (rr 5) 1 8 (ct_67377 5)), (wJ g (rr 6) 1 8 (ct_67377 6)), (wJ g (rr 7) 1 8 (ct_67377 7)), (wO0 co n eq co_place), (wO2 n n_nodes n_kind n_pay n_name n_ways n_held n_targets n_weights), (wI g n_kind 0 12 n_fkind), (wI g co_place 0 12 opc_66399)] H := hP
          have hD : va_D A [(wI g n_pay 0 12 n_fpay), (wI g n_ways 0 12 n_fways), (wI g n_held 0 12 n_fheld), (wI g n_targets 0 36 n_ftargets), (wI g n_weights 0 36 n_fweights), (wI g pl 0 12 plf), (wO1 eq eq_rows eq_right ew), (wJ g eq_right 1 8 ofr_66396), (wR g eq_rows 5 8 (fun i => if i < 8 then some (rr i) else none)), (wJ g (rr 0) 1 8 (ct_67377 0)), (wJ g (rr 1) 1 8 (ct_67377 1)), (wJ g (rr 2) 1 8 (ct_67377 2)), (wJ g (rr 3) 1 8 (ct_67377 3)), (wJ g (rr 4) 1 8 (ct_67377 4)), (wJ g (rr 5) 1 8 (ct_67377 5)), (wJ g (rr 6) 1 8 (ct_67377 6)), (wJ g (rr 7) 1 8 (ct_67377 7)), (wO0 co n eq co_place), (wO2 n n_nodes n_kind n_pay n_name n_ways n_held n_targets n_weights), (wI g n_kind 0 12 n_fkind), (wI g co_place 0 12 opc_66399)] := hD
          refine lv_iconst (v := 0) hx hb dX0_lay_71 (by decide) ?_
          refine lv_istore (lv' := [(8, .int 0), (7, .int v_67368), (6, .int x_67362), (5, .int r_66398), (0, .ref co), (1, .ref pl), (2, .int p0), (3, .int p1), (4, .int p2)]) hx hb dX0_lay_72 hl (by decide) rfl (fun ls hl => ?_)
          have lp_67464 : ∀ (n_67464 : Nat) (x_67462 : Int32) (ct_67463 : Nat → Nat → Int64) (H : Heap) (locs : List Loc) (ls : Array Slot), (0 ≤ (x_67462 : Int32).toInt ∧ (x_67462 : Int32).toInt ≤ 3) → (3 - x_67462.toInt < (n_67464 : Int)) → va_P D vwCl [(wI g n_pay 0 12 n_fpay), (wI g n_ways 0 12 n_fways), (wI g n_held 0 12 n_fheld), (wI g n_targets 0 36 n_ftargets), (wI g n_weights 0 36 n_fweights), (wI g pl 0 12 plf), (wO1 eq eq_rows eq_right ew), (wJ g eq_right 1 8 ofr_66396), (wR g eq_rows 5 8 (fun i => if i < 8 then some (rr i) else none)), (wJ g (rr 0) 1 8 (ct_67463 0)), (wJ g (rr 1) 1 8 (ct_67463 1)), (wJ g (rr 2) 1 8 (ct_67463 2)), (wJ g (rr 3) 1 8 (ct_67463 3)), (wJ g (rr 4) 1 8 (ct_67463 4)), (wJ g (rr 5) 1 8 (ct_67463 5)), (wJ g (rr 6) 1 8 (ct_67463 6)), (wJ g (rr 7) 1 8 (ct_67463 7)), (wO0 co n eq co_place), (wO2 n n_nodes n_kind n_pay n_name n_ways n_held n_targets n_weights), (wI g n_kind 0 12 n_fkind), (wI g co_place 0 12 opc_66399)] H → va_D A [(wI g n_pay 0 12 n_fpay), (wI g n_ways 0 12 n_fways), (wI g n_held 0 12 n_fheld), (wI g n_targets 0 36 n_ftargets), (wI g n_weights 0 36 n_fweights), (wI g pl 0 12 plf), (wO1 eq eq_rows eq_right ew), (wJ g eq_right 1 8 ofr_66396), (wR g eq_rows 5 8 (fun i => if i < 8 then some (rr i) else none)), (wJ g (rr 0) 1 8 (ct_67463 0)), (wJ g (rr 1) 1 8 (ct_67463 1)), (wJ g (rr 2) 1 8 (ct_67463 2)), (wJ g (rr 3) 1 8 (ct_67463 3)), (wJ g (rr 4) 1 8 (ct_67463 4)), (wJ g (rr 5) 1 8 (ct_67463 5)), (wJ g (rr 6) 1 8 (ct_67463 6)), (wJ g (rr 7) 1 8 (ct_67463 7)), (wO0 co n eq co_place), (wO2 n n_nodes n_kind n_pay n_name n_ways n_held n_targets n_weights), (wI g n_kind 0 12 n_fkind), (wI g co_place 0 12 opc_66399)] → va_S A s.heap H locs → lv_has ls 10 [(8, .int x_67462), (7, .int v_67368), (6, .int x_67362), (5, .int r_66398), (0, .ref co), (1, .ref pl), (2, .int p0), (3, .int p1), (4, .int p2)] → W p l e (headSpec (.code yX0_lay cX0_lay 10 (some .int) :: wsL_law) ({ frames := 1, cells := 0, slots := 0, locals := 23 })).room s m args below meth c H locs 0 0 (MQ below (va_Qi (fun r (_ : Unit) => 0 ≤ (r : Int32).toInt ∧ (r : Int32).toInt ≤ 8) (fun _ t => ∃ opc : Nat → Int32, ∃ ofr : Nat → Int64, ∃ oct : Nat → Nat → Int64, (∀ j : Nat, (-1) ≤ (opc j).toInt ∧ (opc j).toInt ≤ 7) ∧ va_P D vwCl [(wO0 co n eq co_place), (wO2 n n_nodes n_kind n_pay n_name n_ways n_held n_targets n_weights), (wI g n_kind 0 12 n_fkind), (wI g n_pay 0 12 n_fpay), (wI g n_ways 0 12 n_fways), (wI g n_held 0 12 n_fheld), (wI g n_targets 0 36 n_ftargets), (wI g n_weights 0 36 n_fweights), (wI g co_place 0 12 opc), (wO1 eq eq_rows eq_right ew), (wJ g eq_right 1 8 ofr), (wR g eq_rows 5 8 (fun i => if i < 8 then some (rr i) else none)), (wJ g (rr 0) 1 8 (oct 0)), (wJ g (rr 1) 1 8 (oct 1)), (wJ g (rr 2) 1 8 (oct 2)), (wJ g (rr 3) 1 8 (oct 3)), (wJ g (rr 4) 1 8 (oct 4)), (wJ g (rr 5) 1 8 (oct 5)), (wJ g (rr 6) 1 8 (oct 6)), (wJ g (rr 7) 1 8 (oct 7)), (wI g pl 0 12 plf)] t.heap ∧ va_D A [(wO0 co n eq co_place), (wO2 n n_nodes n_kind n_pay n_name n_ways n_held n_targets n_weights), (wI g n_kind 0 12 n_fkind), (wI g n_pay 0 12 n_fpay), (wI g n_ways 0 12 n_fways), (wI g n_held 0 12 n_fheld), (wI g n_targets 0 36 n_ftargets), (wI g n_weights 0 36 n_fweights), (wI g co_place 0 12 opc), (wO1 eq eq_rows eq_right ew), (wJ g eq_right 1 8 ofr), (wR g eq_rows 5 8 (fun i => if i < 8 then some (rr i) else none)), (wJ g (rr 0) 1 8 (oct 0)), (wJ g (rr 1) 1 8 (oct 1)), (wJ g (rr 2) 1 8 (oct 2)), (wJ g (rr 3) 1 8 (oct 3)), (wJ g (rr 4) 1 8 (oct 4)), (wJ g (rr 5) 1 8 (oct 5)), (wJ g (rr 6) 1 8 (oct 6)), (wJ g (rr 7) 1 8 (oct 7)), (wI g pl 0 12 plf)]) A) args s 0 0 A) (F0 m 74 ls []) := by
            intro n_67464
            induction n_67464 with
            | zero =>
              intro x_67462 ct_67463 H locs ls h_x_67462 hm_67464 hP hD hS hl
              exfalso; omega
            | succ n_67464 ih_67464 =>
              intro x_67462 ct_67463 H locs ls h_x_67462 hm_67464 hP hD hS hl
              refine lv_iload hx hb dX0_lay_74 (lv_at hl 0 rfl) ?_
              refine lv_aload_n hx hb dX0_lay_76 rfl (lv_at hl 4 rfl) ?_
              refine va_get (D := D) (ci := 0) (v := .ref n) (C := RX0) (T := TX0) (N := 3) hx hb hts inlX0 hown hK hP 17 rfl rfl 0 (by decide) (hts (Cond.fieldLink RX0 22 "ChanceRings$Course" "net" "LChanceRings$Net;") qw_463) (fun _ h9 => h9) rfl dX0_lay_77 ?_
              refine va_get (D := D) (ci := 2) (v := .ref n_ways) (C := RX2) (T := TX2) (N := 8) hx hb hts inlX2 hown hK hP 18 rfl rfl 4 (by decide) (hts (Cond.fieldLink RX0 34 "ChanceRings$Net" "ways" "[I") qw_466) (fun _ h9 => h9) rfl dX0_lay_80 ?_
              refine lv_iload hx hb dX0_lay_83 (lv_at hl 2 rfl) ?_
              refine va_iald hx hb hK hP 1 0 rfl rfl (tr_in h_67366 (by decide) (by decide)) dX0_lay_85 ?_
              refine lv_topi (fun v_67465 v_67465_e => ?_)
              have h_v_67465 : 0 ≤ (v_67465 : Int32).toInt ∧ (v_67465 : Int32).toInt ≤ 3 := by rw [v_67465_e]; exact h_n_fways _
              refine lv_icmp_ge (tgt := 148) hx hb dX0_lay_86 (by decide) (fun c_67466 => ?_) (fun c_67466 => ?_)
              · skip
                obtain ⟨v_67469, v_67469_e⟩ : ∃ y : Int32, y = x_67362 + Int32.ofInt 1 := ⟨_, rfl⟩
                have h_v_67469 : 1 ≤ (v_67469 : Int32).toInt ∧ (v_67469 : Int32).toInt ≤ 12 := by rw [v_67469_e]; exact tr_add h_67366 (⟨by decide, by decide⟩ : 1 ≤ (Int32.ofInt 1 : Int32).toInt ∧ (Int32.ofInt 1 : Int32).toInt ≤ 1) (by decide) (by decide) (by decide) (by decide)
                have q_v_67469 : v_67469.toInt = x_67362.toInt + 1 := by rw [v_67469_e]; exact tr_addE h_67366 (⟨by decide, by decide⟩ : 1 ≤ (Int32.ofInt 1 : Int32).toInt ∧ (Int32.ofInt 1 : Int32).toInt ≤ 1) (by decide) (by decide)
                refine lv_iinc (v := v_67469) (lv' := [(6, .int v_67469), (8, .int x_67462), (7, .int v_67368), (5, .int r_66398), (0, .ref co), (1, .ref pl), (2, .int p0), (3, .int p1), (4, .int p2)]) hx hb dX0_lay_148 hl (k := 2) rfl v_67469_e.symm (by decide) rfl (fun ls hl => ?_)
                refine lv_goto (tgt := 17) hx hb dX0_lay_151 (by decide) ?_
                exact ih_67364 v_67469 ct_67463 H _ ls (tr_w h_v_67469 (by decide) (by decide)) (by (first | (clear hw_66401 h_v_67368 c_67369_i h_67371 h_x_67462 h_v_67465; omega) | omega)) (hP.sub [0, 1, 2, 3, 4, 5, 6, 7, 8, 9, 10, 11, 12, 13, 14, 15, 16, 17, 18, 19, 20] rfl) (hD.sub [0, 1, 2, 3, 4, 5, 6, 7, 8, 9, 10, 11, 12, 13, 14, 15, 16, 17, 18, 19, 20] (by decide) rfl) hS (lv_sub hl [0, 3, 4, 5, 6, 7, 8] rfl)
              · skip
                have c_67466_i := Int32.lt_iff_toInt_lt.mp (Int32.not_le.mp c_67466)
                have h_67467 : 0 ≤ (x_67462 : Int32).toInt ∧ (x_67462 : Int32).toInt ≤ 2 := nr_lt_l h_x_67462 h_v_67465 c_67466_i (by decide) (by decide)
                have h_67468 : 1 ≤ (v_67465 : Int32).toInt ∧ (v_67465 : Int32).toInt ≤ 3 := nr_lt_r h_x_67462 h_v_67465 c_67466_i (by decide) (by decide)
                refine lv_aload_n hx hb dX0_lay_89 rfl (lv_at hl 4 rfl) ?_
                refine va_get (D := D) (ci := 0) (v := .ref co_place) (C := RX0) (T := TX0) (N := 3) hx hb hts inlX0 hown hK hP 17 rfl rfl 2 (by decide) (hts (Cond.fieldLink RX0 18 "ChanceRings$Course" "place" "[I") qw_474) (fun _ h9 => h9) rfl dX0_lay_90 ?_
                refine lv_aload_n hx hb dX0_lay_93 rfl (lv_at hl 4 rfl) ?_
                refine va_get (D := D) (ci := 0) (v := .ref n) (C := RX0) (T := TX0) (N := 3) hx hb hts inlX0 hown hK hP 17 rfl rfl 0 (by decide) (hts (Cond.fieldLink RX0 22 "ChanceRings$Course" "net" "LChanceRings$Net;") qw_463) (fun _ h9 => h9) rfl dX0_lay_94 ?_
                refine lv_iload hx hb dX0_lay_97 (lv_at hl 2 rfl) ?_
                refine lv_iload hx hb dX0_lay_99 (lv_at hl 0 rfl) ?_
                have hPc := hP.sub (ws' := [(wO2 n n_nodes n_kind n_pay n_name n_ways n_held n_targets n_weights), (wI g n_targets 0 36 n_ftargets)]) [18, 3] rfl
                refine vp_callSi (va_Run.run (va_runV (As := [.int x_67362, .int x_67462]) (rest := [.ref co_place]) ⟨hx, hb, hml, hown, hts⟩ (c_X2_target l D g n x_67362 x_67462 n_nodes n_kind n_pay n_name n_ways n_held n_targets n_weights n_ftargets (tr_w h_67366 (by decide) (by decide)) (tr_w h_67467 (by decide) (by decide)) (tr_w h_67367 (by decide) (by decide)) (tr_wa h_n_ftargets (by decide) (by decide))) (cwV 2 hts (tz_gV qw_472 qw_325 qw_326 qw_322 qw_327) rfl rfl rfl (by decide +kernel) ⟨Nat.le_of_ble_eq_true rfl, Nat.le_of_ble_eq_true rfl⟩) ⟨tz_blS, va_recv hK hPc (ci := 2) (q0 := 0) rfl rfl, tz_preS hPc hK⟩ rfl rfl hl.1 rfl (lv_room (Nat.le_of_ble_eq_true rfl)) dX0_lay_101 ⟨Nat.le_of_ble_eq_true rfl, Nat.le_of_ble_eq_true rfl⟩)) (fun r_67470 hw => ?_)
                have hw_67471 : 0 ≤ (r_67470 : Int32).toInt ∧ (r_67470 : Int32).toInt ≤ 11 := hw
                refine va_iald hx hb hK hP 20 0 rfl rfl (tr_in hw_67471 (by decide) (by decide)) dX0_lay_104 ?_
                refine lv_topi (fun v_67472 v_67472_e => ?_)
                have h_v_67472 : (-1) ≤ (v_67472 : Int32).toInt ∧ (v_67472 : Int32).toInt ≤ 7 := by rw [v_67472_e]; exact hf_66400 _
                refine lv_istore (lv' := [(9, .int v_67472), (8, .int x_67462), (7, .int v_67368), (6, .int x_67362), (5, .int r_66398), (0, .ref co), (1, .ref pl), (2, .int p0), (3, .int p1), (4, .int p2)]) hx hb dX0_lay_105 hl (by decide) rfl (fun ls hl => ?_)
                refine lv_iload hx hb dX0_lay_107 (lv_at hl 0 rfl) ?_
                refine lv_iconst (v := (-1)) hx hb dX0_lay_109 (by decide) ?_
                refine lv_icmp_eq (tgt := 142) hx hb dX0_lay_110 (by decide) (fun c_67473 => ?_) (fun c_67473 => ?_)
                · skip
                  have c_67473_i : (v_67472 : Int32).toInt = ((-1) : Int32).toInt := congrArg Int32.toInt c_67473
                  have h_67474 : (-1) ≤ (v_67472 : Int32).toInt ∧ (v_67472 : Int32).toInt ≤ (-1) := nr_eq_l h_v_67472 (⟨by decide, by decide⟩ : (-1) ≤ ((-1) : Int32).toInt ∧ ((-1) : Int32).toInt ≤ (-1)) c_67473_i (by decide) (by decide)
                  obtain ⟨v_67476, v_67476_e⟩ : ∃ y : Int32, y = x_67462 + Int32.ofInt 1 := ⟨_, rfl⟩
                  have h_v_67476 : 1 ≤ (v_67476 : Int32).toInt ∧ (v_67476 : Int32).toInt ≤ 3 := by rw [v_67476_e]; exact tr_add h_67467 (⟨by decide, by decide⟩ : 1 ≤ (Int32.ofInt 1 : Int32).toInt ∧ (Int32.ofInt 1 : Int32).toInt ≤ 1) (by decide) (by decide) (by decide) (by decide)
                  have q_v_67476 : v_67476.toInt = x_67462.toInt + 1 := by rw [v_67476_e]; exact tr_addE h_67467 (⟨by decide, by decide⟩ : 1 ≤ (Int32.ofInt 1 : Int32).toInt ∧ (Int32.ofInt 1 : Int32).toInt ≤ 1) (by decide) (by decide)
                  refine lv_iinc (v := v_67476) (lv' := [(8, .int v_67476), (9, .int v_67472), (7, .int v_67368), (6, .int x_67362), (5, .int r_66398), (0, .ref co), (1, .ref pl), (2, .int p0), (3, .int p1), (4, .int p2)]) hx hb dX0_lay_142 hl (k := 1) rfl v_67476_e.symm (by decide) rfl (fun ls hl => ?_)
                  refine lv_goto (tgt := 74) hx hb dX0_lay_145 (by decide) ?_
                  exact ih_67464 v_67476 ct_67463 H _ ls (tr_w h_v_67476 (by decide) (by decide)) (by (first | (clear hw_66401 h_v_67368 c_67369_i h_67371 hw_67471 h_v_67472 c_67473_i h_67474; omega) | omega)) (hP.sub [0, 1, 2, 3, 4, 5, 6, 7, 8, 9, 10, 11, 12, 13, 14, 15, 16, 17, 18, 19, 20] rfl) (hD.sub [0, 1, 2, 3, 4, 5, 6, 7, 8, 9, 10, 11, 12, 13, 14, 15, 16, 17, 18, 19, 20] (by decide) rfl) hS (lv_sub hl [0, 2, 3, 4, 5, 6, 7, 8, 9] rfl)
                · skip
                  have c_67473_i : ¬ (v_67472 : Int32).toInt = ((-1) : Int32).toInt := (fun q => c_67473 (Int32.toInt_inj.mp q))
                  have h_67475 : 0 ≤ (v_67472 : Int32).toInt ∧ (v_67472 : Int32).toInt ≤ 7 := nr_ne_l h_v_67472 (⟨by decide, by decide⟩ : (-1) ≤ ((-1) : Int32).toInt ∧ ((-1) : Int32).toInt ≤ (-1)) c_67473_i (by decide) (by decide)
                  refine lv_aload_n hx hb dX0_lay_113 rfl (lv_at hl 5 rfl) ?_
                  refine va_get (D := D) (ci := 0) (v := .ref eq) (C := RX0) (T := TX0) (N := 3) hx hb hts inlX0 hown hK hP 17 rfl rfl 1 (by decide) (hts (Cond.fieldLink RX0 12 "ChanceRings$Course" "equations" "LChanceRings$Equations;") qw_497) (fun _ h9 => h9) rfl dX0_lay_114 ?_
                  refine va_get (D := D) (ci := 1) (v := .ref eq_rows) (C := RX1) (T := TX1) (N := 3) hx hb hts inlX1 hown hK hP 6 rfl rfl 0 (by decide) (hts (Cond.fieldLink RX0 87 "ChanceRings$Equations" "rows" "[[J") qw_506) (fun _ h9 => h9) rfl dX0_lay_117 ?_
                  refine lv_iload hx hb dX0_lay_120 (lv_at hl 2 rfl) ?_
                  refine va_ald2 hx hb hK hP 8 5 rfl rfl (tr_in h_67371 (by decide) (by decide)) dX0_lay_122 ?_
                  refine tz_v (y := .ref (rr (v_67368 : Int32).toNatClampNeg)) (tz_row rfl (tr_cl (tr_in h_67371 (by decide) (by decide)))) ?_
                  refine lv_iload hx hb dX0_lay_123 (lv_at hl 0 rfl) ?_
                  refine lv_dup2_11 hx hb dX0_lay_125 rfl rfl ?_
                  refine tq_ald (WS := (fun ct9 : Nat → Nat → Int64 => [(wI g n_pay 0 12 n_fpay), (wI g n_ways 0 12 n_fways), (wI g n_held 0 12 n_fheld), (wI g n_targets 0 36 n_ftargets), (wI g n_weights 0 36 n_fweights), (wI g pl 0 12 plf), (wO1 eq eq_rows eq_right ew), (wJ g eq_right 1 8 ofr_66396), (wR g eq_rows 5 8 (fun i => if i < 8 then some (rr i) else none)), (wJ g (rr 0) 1 8 (ct9 0)), (wJ g (rr 1) 1 8 (ct9 1)), (wJ g (rr 2) 1 8 (ct9 2)), (wJ g (rr 3) 1 8 (ct9 3)), (wJ g (rr 4) 1 8 (ct9 4)), (wJ g (rr 5) 1 8 (ct9 5)), (wJ g (rr 6) 1 8 (ct9 6)), (wJ g (rr 7) 1 8 (ct9 7)), (wO0 co n eq co_place), (wO2 n n_nodes n_kind n_pay n_name n_ways n_held n_targets n_weights), (wI g n_kind 0 12 n_fkind), (wI g co_place 0 12 opc_66399)])) (ct := ct_67463) hx hb hK hP 9 (fun ct i hi => by rcases nr_8 hi with rfl | rfl | rfl | rfl | rfl | rfl | rfl | rfl <;> rfl) (tr_in h_67371 (by decide) (by decide)) (tr_in h_67475 (by decide) (by decide)) dX0_lay_126 (fun w_67477 => ?_)
                  refine lv_iload_n hx hb dX0_lay_127 rfl (lv_at hl 8 rfl) ?_
                  refine lv_i2l hx hb dX0_lay_128 rfl ?_
                  refine lv_topl (fun w_67478 _ => ?_)
                  refine lv_aload_n hx hb dX0_lay_129 rfl (lv_at hl 5 rfl) ?_
                  refine lv_aload_n hx hb dX0_lay_130 rfl (lv_at hl 6 rfl) ?_
                  refine lv_iload hx hb dX0_lay_131 (lv_at hl 3 rfl) ?_
                  refine lv_iload hx hb dX0_lay_133 (lv_at hl 1 rfl) ?_
                  have hPc := hP.sub (ws' := [(wO0 co n eq co_place), (wO2 n n_nodes n_kind n_pay n_name n_ways n_held n_targets n_weights), (wI g n_kind 0 12 n_fkind), (wI g n_weights 0 36 n_fweights), (wI g pl 0 12 plf)]) [17, 18, 19, 4, 5] rfl
                  refine vp_callSi (va_Run.run (va_runV (As := [.ref pl, .int x_67362, .int x_67462]) (rest := [.long w_67478, .long w_67477, .int v_67472, .ref (rr (v_67368 : Int32).toNatClampNeg)]) ⟨hx, hb, hml, hown, hts⟩ (c_X0_share l D g co pl x_67362 x_67462 n eq co_place n_nodes n_kind n_pay n_name n_ways n_held n_targets n_weights n_fkind n_fweights plf (tr_w h_67366 (by decide) (by decide)) (tr_w h_67467 (by decide) (by decide)) (tr_w h_67367 (by decide) (by decide)) (tr_wa h_n_fkind (by decide) (by decide)) (tr_wa h_plf (by decide) (by decide))) (cwV 3 hts (tz_gV qw_467 qw_468 qw_469 qw_470 qw_471) rfl rfl rfl (by decide +kernel) ⟨Nat.le_of_ble_eq_true rfl, Nat.le_of_ble_eq_true rfl⟩) ⟨tz_blS, va_recv hK hPc (ci := 0) (q0 := 0) rfl rfl, tz_preS hPc hK⟩ rfl rfl hl.1 rfl (lv_room (Nat.le_of_ble_eq_true rfl)) dX0_lay_135 ⟨Nat.le_of_ble_eq_true rfl, Nat.le_of_ble_eq_true rfl⟩)) (fun r_67479 hw => ?_)
                  refine lv_i2l hx hb dX0_lay_138 rfl ?_
                  refine lv_topl (fun w_67480 _ => ?_)
                  refine lv_lmul hx hb dX0_lay_139 ?_
                  refine lv_topl (fun w_67481 _ => ?_)
                  refine lv_lsub hx hb dX0_lay_140 ?_
                  refine lv_topl (fun w_67482 _ => ?_)
                  refine tq_ast (WS := (fun ct9 : Nat → Nat → Int64 => [(wI g n_pay 0 12 n_fpay), (wI g n_ways 0 12 n_fways), (wI g n_held 0 12 n_fheld), (wI g n_targets 0 36 n_ftargets), (wI g n_weights 0 36 n_fweights), (wI g pl 0 12 plf), (wO1 eq eq_rows eq_right ew), (wJ g eq_right 1 8 ofr_66396), (wR g eq_rows 5 8 (fun i => if i < 8 then some (rr i) else none)), (wJ g (rr 0) 1 8 (ct9 0)), (wJ g (rr 1) 1 8 (ct9 1)), (wJ g (rr 2) 1 8 (ct9 2)), (wJ g (rr 3) 1 8 (ct9 3)), (wJ g (rr 4) 1 8 (ct9 4)), (wJ g (rr 5) 1 8 (ct9 5)), (wJ g (rr 6) 1 8 (ct9 6)), (wJ g (rr 7) 1 8 (ct9 7)), (wO0 co n eq co_place), (wO2 n n_nodes n_kind n_pay n_name n_ways n_held n_targets n_weights), (wI g n_kind 0 12 n_fkind), (wI g co_place 0 12 opc_66399)])) (ct := ct_67463) hx hb hK hP hD hS 9 (fun ct i hi => by rcases nr_8 hi with rfl | rfl | rfl | rfl | rfl | rfl | rfl | rfl <;> rfl) (fun ct i f9 hi => by rcases nr_8 hi with rfl | rfl | rfl | rfl | rfl | rfl | rfl | rfl <;> rfl) (tr_in h_67371 (by decide) (by decide)) (tr_in h_67475 (by decide) (by decide)) dX0_lay_141 (fun ct_67483 H locs hP hD hS => ?_)
                  have hP : va_P D vwCl [(wI g n_pay 0 12 n_fpay), (wI g n_ways 0 12 n_fways), (wI g n_held 0 12 n_fheld), (wI g n_targets 0 36 n_ftargets), (wI g n_weights 0 36 n_fweights), (wI g pl 0 12 plf), (wO1 eq eq_rows eq_right ew), (wJ g eq_right 1 8 ofr_66396), (wR g eq_rows 5 8 (fun i => if i < 8 then some (rr i) else none)), (wJ g (rr 0) 1 8 (ct_67483 0)), (wJ g (rr 1) 1 8 (ct_67483 1)), (wJ g (rr 2) 1 8 (ct_67483 2)), (wJ g (rr 3) 1 8 (ct_67483 3)), (wJ g (rr 4) 1 8 (ct_67483 4)), (wJ g (rr 5) 1 8 (ct_67483 5)), (wJ g (rr 6) 1 8 (ct_67483 6)), (wJ g (rr 7) 1 8 (ct_67483 7)), (wO0 co n eq co_place), (wO2 n n_nodes n_kind n_pay n_name n_ways n_held n_targets n_weights), (wI g n_kind 0 12 n_fkind), (wI g co_place 0 12 opc_66399)] H := hP
                  have hD : va_D A [(wI g n_pay 0 12 n_fpay), (wI g n_ways 0 12 n_fways), (wI g n_held 0 12 n_fheld), (wI g n_targets 0 36 n_ftargets), (wI g n_weights 0 36 n_fweights), (wI g pl 0 12 plf), (wO1 eq eq_rows eq_right ew), (wJ g eq_right 1 8 ofr_66396), (wR g eq_rows 5 8 (fun i => if i < 8 then some (rr i) else none)), (wJ g (rr 0) 1 8 (ct_67483 0)), (wJ g (rr 1) 1 8 (ct_67483 1)), (wJ g (rr 2) 1 8 (ct_67483 2)), (wJ g (rr 3) 1 8 (ct_67483 3)), (wJ g (rr 4) 1 8 (ct_67483 4)), (wJ g (rr 5) 1 8 (ct_67483 5)), (wJ g (rr 6) 1 8 (ct_67483 6)), (wJ g (rr 7) 1 8 (ct_67483 7)), (wO0 co n eq co_place), (wO2 n n_nodes n_kind n_pay n_name n_ways n_held n_targets n_weights), (wI g n_kind 0 12 n_fkind), (wI g co_place 0 12 opc_66399)] := hD
                  obtain ⟨v_67484, v_67484_e⟩ : ∃ y : Int32, y = x_67462 + Int32.ofInt 1 := ⟨_, rfl⟩
                  have h_v_67484 : 1 ≤ (v_67484 : Int32).toInt ∧ (v_67484 : Int32).toInt ≤ 3 := by rw [v_67484_e]; exact tr_add h_67467 (⟨by decide, by decide⟩ : 1 ≤ (Int32.ofInt 1 : Int32).toInt ∧ (Int32.ofInt 1 : Int32).toInt ≤ 1) (by decide) (by decide) (by decide) (by decide)
                  have q_v_67484 : v_67484.toInt = x_67462.toInt + 1 := by rw [v_67484_e]; exact tr_addE h_67467 (⟨by decide, by decide⟩ : 1 ≤ (Int32.ofInt 1 : Int32).toInt ∧ (Int32.ofInt 1 : Int32).toInt ≤ 1) (by decide) (by decide)
                  refine lv_iinc (v := v_67484) (lv' := [(8, .int v_67484), (9, .int v_67472), (7, .int v_67368), (6, .int x_67362), (5, .int r_66398), (0, .ref co), (1, .ref pl), (2, .int p0), (3, .int p1), (4, .int p2)]) hx hb dX0_lay_142 hl (k := 1) rfl v_67484_e.symm (by decide) rfl (fun ls hl => ?_)
                  refine lv_goto (tgt := 74) hx hb dX0_lay_145 (by decide) ?_
                  exact ih_67464 v_67484 ct_67483 H _ ls (tr_w h_v_67484 (by decide) (by decide)) (by (first | (clear hw_66401 h_v_67368 c_67369_i h_67371 hw_67471 h_v_67472 c_67473_i h_67475; omega) | omega)) (hP.sub [0, 1, 2, 3, 4, 5, 6, 7, 8, 9, 10, 11, 12, 13, 14, 15, 16, 17, 18, 19, 20] rfl) (hD.sub [0, 1, 2, 3, 4, 5, 6, 7, 8, 9, 10, 11, 12, 13, 14, 15, 16, 17, 18, 19, 20] (by decide) rfl) hS (lv_sub hl [0, 2, 3, 4, 5, 6, 7, 8, 9] rfl)
          exact lp_67464 4 0 ct_67377 H _ ls (⟨by decide, by decide⟩ : 0 ≤ (0 : Int32).toInt ∧ (0 : Int32).toInt ≤ 3) (by decide) (hP.sub [0, 1, 2, 3, 4, 5, 6, 7, 8, 9, 10, 11, 12, 13, 14, 15, 16, 17, 18, 19, 20] rfl) (hD.sub [0, 1, 2, 3, 4, 5, 6, 7, 8, 9, 10, 11, 12, 13, 14, 15, 16, 17, 18, 19, 20] (by decide) rfl) hS (lv_sub hl [0, 1, 2, 3, 4, 5, 6, 7, 8] rfl)
  exact lp_67364 13 0 oct_66397 H _ ls (⟨by decide, by decide⟩ : 0 ≤ (0 : Int32).toInt ∧ (0 : Int32).toInt ≤ 12) (by decide) (hP.sub [0, 1, 2, 3, 4, 5, 6, 7, 8, 9, 10, 11, 12, 13, 14, 15, 16, 17, 18, 19, 20] rfl) (hD.sub [0, 1, 2, 3, 4, 5, 6, 7, 8, 9, 10, 11, 12, 13, 14, 15, 16, 17, 18, 19, 20] (by decide) rfl) hS (lv_sub hl [0, 1, 2, 3, 4, 5, 6] rfl)
set_option maxHeartbeats 4000000 in
set_option maxRecDepth 100000 in
theorem c_X0_finish (l : Launch) (D : va_G) (g : Nat → ClassId) (sz : Nat) (co : Nat) (p0 : Int32) (vs : Nat) (n : Nat) (eq : Nat) (co_place : Nat) (n_nodes : Int32) (n_kind : Nat) (n_pay : Nat) (n_name : Nat) (n_ways : Nat) (n_held : Nat) (n_targets : Nat) (n_weights : Nat) (n_fkind : Nat → Int32) (n_fpay : Nat → Int32) (n_fways : Nat → Int32) (n_fheld : Nat → Int32) (n_ftargets : Nat → Int32) (n_fweights : Nat → Int32) (pcf : Nat → Int32) (eq_rows : Nat) (eq_right : Nat) (ew : Int64) (fr : Nat → Int64) (rr : Nat → Nat) (ct : Nat → Nat → Int64) (vs_part : Nat) (vsw : Int64) (vsp : Nat → Int64) (h_p0 : 0 ≤ (p0 : Int32).toInt ∧ (p0 : Int32).toInt ≤ 8) (h_n_nodes : 0 ≤ (n_nodes : Int32).toInt ∧ (n_nodes : Int32).toInt ≤ 12) (h_n_fkind : ∀ j : Nat, 0 ≤ (n_fkind j).toInt ∧ (n_fkind j).toInt ≤ 3) (h_n_fways : ∀ j : Nat, 0 ≤ (n_fways j).toInt ∧ (n_fways j).toInt ≤ 3) (h_n_fheld : ∀ j : Nat, (-1) ≤ (n_fheld j).toInt ∧ (n_fheld j).toInt ≤ 2) (h_n_ftargets : ∀ j : Nat, 0 ≤ (n_ftargets j).toInt ∧ (n_ftargets j).toInt ≤ 11) (h_pcf : ∀ j : Nat, (-1) ≤ (pcf j).toInt ∧ (pcf j).toInt ≤ 7) : Met l yX0_finish (.code yX0_finish cX0_finish 4 none :: wsL_law) ({ frames := 2, cells := 0, slots := 0, locals := 55 }) (va_Pc [.ref co, .int p0, .ref vs] (fun U => U.heap.size = sz ∧ va_P D vwCl [(wO0 co n eq co_place), (wO2 n n_nodes n_kind n_pay n_name n_ways n_held n_targets n_weights), (wI g n_kind 0 12 n_fkind), (wI g n_pay 0 12 n_fpay), (wI g n_ways 0 12 n_fways), (wI g n_held 0 12 n_fheld), (wI g n_targets 0 36 n_ftargets), (wI g n_weights 0 36 n_fweights), (wI g co_place 0 12 pcf), (wO1 eq eq_rows eq_right ew), (wJ g eq_right 1 8 fr), (wR g eq_rows 5 8 (fun i => if i < 8 then some (rr i) else none)), (wJ g (rr 0) 1 8 (ct 0)), (wJ g (rr 1) 1 8 (ct 1)), (wJ g (rr 2) 1 8 (ct 2)), (wJ g (rr 3) 1 8 (ct 3)), (wJ g (rr 4) 1 8 (ct 4)), (wJ g (rr 5) 1 8 (ct 5)), (wJ g (rr 6) 1 8 (ct 6)), (wJ g (rr 7) 1 8 (ct 7)), (wO10 vs vs_part vsw), (wJ g vs_part 1 12 vsp)] U.heap ∧ va_K D vwCl (TY g) U ∧ va_D (fun _ => True) [(wO0 co n eq co_place), (wO2 n n_nodes n_kind n_pay n_name n_ways n_held n_targets n_weights), (wI g n_kind 0 12 n_fkind), (wI g n_pay 0 12 n_fpay), (wI g n_ways 0 12 n_fways), (wI g n_held 0 12 n_fheld), (wI g n_targets 0 36 n_ftargets), (wI g n_weights 0 36 n_fweights), (wI g co_place 0 12 pcf), (wO1 eq eq_rows eq_right ew), (wJ g eq_right 1 8 fr), (wR g eq_rows 5 8 (fun i => if i < 8 then some (rr i) else none)), (wJ g (rr 0) 1 8 (ct 0)), (wJ g (rr 1) 1 8 (ct 1)), (wJ g (rr 2) 1 8 (ct 2)), (wJ g (rr 3) 1 8 (ct 3)), (wJ g (rr 4) 1 8 (ct 4)), (wJ g (rr 5) 1 8 (ct 5)), (wJ g (rr 6) 1 8 (ct 6)), (wJ g (rr 7) 1 8 (ct 7)), (wO10 vs vs_part vsw), (wJ g vs_part 1 12 vsp)])) (va_Qv (fun (_ : Unit) => True) (fun _ t => ∃ oew : Int64, ∃ ofr : Nat → Int64, ∃ ovw : Int64, ∃ ovp : Nat → Int64, ∃ oct : Nat → Nat → Int64, va_P D vwCl [(wO0 co n eq co_place), (wO2 n n_nodes n_kind n_pay n_name n_ways n_held n_targets n_weights), (wI g n_kind 0 12 n_fkind), (wI g n_pay 0 12 n_fpay), (wI g n_ways 0 12 n_fways), (wI g n_held 0 12 n_fheld), (wI g n_targets 0 36 n_ftargets), (wI g n_weights 0 36 n_fweights), (wI g co_place 0 12 pcf), (wO1 eq eq_rows eq_right oew), (wJ g eq_right 1 8 ofr), (wR g eq_rows 5 8 (fun i => if i < 8 then some (rr i) else none)), (wJ g (rr 0) 1 8 (oct 0)), (wJ g (rr 1) 1 8 (oct 1)), (wJ g (rr 2) 1 8 (oct 2)), (wJ g (rr 3) 1 8 (oct 3)), (wJ g (rr 4) 1 8 (oct 4)), (wJ g (rr 5) 1 8 (oct 5)), (wJ g (rr 6) 1 8 (oct 6)), (wJ g (rr 7) 1 8 (oct 7)), (wO10 vs vs_part ovw), (wJ g vs_part 1 12 ovp)] t.heap ∧ va_D (va_A [(wO0 co n eq co_place), (wO2 n n_nodes n_kind n_pay n_name n_ways n_held n_targets n_weights), (wI g n_kind 0 12 n_fkind), (wI g n_pay 0 12 n_fpay), (wI g n_ways 0 12 n_fways), (wI g n_held 0 12 n_fheld), (wI g n_targets 0 36 n_ftargets), (wI g n_weights 0 36 n_fweights), (wI g co_place 0 12 pcf), (wO1 eq eq_rows eq_right ew), (wJ g eq_right 1 8 fr), (wR g eq_rows 5 8 (fun i => if i < 8 then some (rr i) else none)), (wJ g (rr 0) 1 8 (ct 0)), (wJ g (rr 1) 1 8 (ct 1)), (wJ g (rr 2) 1 8 (ct 2)), (wJ g (rr 3) 1 8 (ct 3)), (wJ g (rr 4) 1 8 (ct 4)), (wJ g (rr 5) 1 8 (ct 5)), (wJ g (rr 6) 1 8 (ct 6)), (wJ g (rr 7) 1 8 (ct 7)), (wO10 vs vs_part vsw), (wJ g vs_part 1 12 vsp)] sz) [(wO0 co n eq co_place), (wO2 n n_nodes n_kind n_pay n_name n_ways n_held n_targets n_weights), (wI g n_kind 0 12 n_fkind), (wI g n_pay 0 12 n_fpay), (wI g n_ways 0 12 n_fways), (wI g n_held 0 12 n_fheld), (wI g n_targets 0 36 n_ftargets), (wI g n_weights 0 36 n_fweights), (wI g co_place 0 12 pcf), (wO1 eq eq_rows eq_right oew), (wJ g eq_right 1 8 ofr), (wR g eq_rows 5 8 (fun i => if i < 8 then some (rr i) else none)), (wJ g (rr 0) 1 8 (oct 0)), (wJ g (rr 1) 1 8 (oct 1)), (wJ g (rr 2) 1 8 (oct 2)), (wJ g (rr 3) 1 8 (oct 3)), (wJ g (rr 4) 1 8 (oct 4)), (wJ g (rr 5) 1 8 (oct 5)), (wJ g (rr 6) 1 8 (oct 6)), (wJ g (rr 7) 1 8 (oct 7)), (wO10 vs vs_part ovw), (wJ g vs_part 1 12 ovp)]) (va_A [(wO0 co n eq co_place), (wO2 n n_nodes n_kind n_pay n_name n_ways n_held n_targets n_weights), (wI g n_kind 0 12 n_fkind), (wI g n_pay 0 12 n_fpay), (wI g n_ways 0 12 n_fways), (wI g n_held 0 12 n_fheld), (wI g n_targets 0 36 n_ftargets), (wI g n_weights 0 36 n_fweights), (wI g co_place 0 12 pcf), (wO1 eq eq_rows eq_right ew), (wJ g eq_right 1 8 fr), (wR g eq_rows 5 8 (fun i => if i < 8 then some (rr i) else none)), (wJ g (rr 0) 1 8 (ct 0)), (wJ g (rr 1) 1 8 (ct 1)), (wJ g (rr 2) 1 8 (ct 2)), (wJ g (rr 3) 1 8 (ct 3)), (wJ g (rr 4) 1 8 (ct 4)), (wJ g (rr 5) 1 8 (ct 5)), (wJ g (rr 6) 1 8 (ct 6)), (wJ g (rr 7) 1 8 (ct 7)), (wO10 vs vs_part vsw), (wJ g vs_part 1 12 vsp)] sz)) 0 0 (va_A [(wO0 co n eq co_place), (wO2 n n_nodes n_kind n_pay n_name n_ways n_held n_targets n_weights), (wI g n_kind 0 12 n_fkind), (wI g n_pay 0 12 n_fpay), (wI g n_ways 0 12 n_fways), (wI g n_held 0 12 n_fheld), (wI g n_targets 0 36 n_ftargets), (wI g n_weights 0 36 n_fweights), (wI g co_place 0 12 pcf), (wO1 eq eq_rows eq_right ew), (wJ g eq_right 1 8 fr), (wR g eq_rows 5 8 (fun i => if i < 8 then some (rr i) else none)), (wJ g (rr 0) 1 8 (ct 0)), (wJ g (rr 1) 1 8 (ct 1)), (wJ g (rr 2) 1 8 (ct 2)), (wJ g (rr 3) 1 8 (ct 3)), (wJ g (rr 4) 1 8 (ct 4)), (wJ g (rr 5) 1 8 (ct 5)), (wJ g (rr 6) 1 8 (ct 6)), (wJ g (rr 7) 1 8 (ct 7)), (wO10 vs vs_part vsw), (wJ g vs_part 1 12 vsp)] sz) := by
  refine Met.ofW (cc := cX0_finish) (maxL := 4) (ret := none) (by decide) rfl ?_
  intro p e s m args below meth c s₁ B hml hv
  obtain ⟨ha, hsz, hP, hK, hD0⟩ := hv
  have hx := B.exec
  have hb := B.bytes
  have hr := B.returns
  have hts0 := atoms_spec (ws := (.code yX0_finish cX0_finish 4 none :: wsL_law)) B.pre
  have hts : ∀ w ∈ wsL_law, w.before args s = true := fun w h => hts0 w (List.mem_cons_of_mem _ h)
  have hown : s.vm.findClass RX0 = some m.cls := findClass_of_methodNamed B.named
  have hlocks := B.notSynchronized
  subst hsz
  have hD := hD0.self (sz := s.heap.size)
  generalize hAe : va_A [(wO0 co n eq co_place), (wO2 n n_nodes n_kind n_pay n_name n_ways n_held n_targets n_weights), (wI g n_kind 0 12 n_fkind), (wI g n_pay 0 12 n_fpay), (wI g n_ways 0 12 n_fways), (wI g n_held 0 12 n_fheld), (wI g n_targets 0 36 n_ftargets), (wI g n_weights 0 36 n_fweights), (wI g co_place 0 12 pcf), (wO1 eq eq_rows eq_right ew), (wJ g eq_right 1 8 fr), (wR g eq_rows 5 8 (fun i => if i < 8 then some (rr i) else none)), (wJ g (rr 0) 1 8 (ct 0)), (wJ g (rr 1) 1 8 (ct 1)), (wJ g (rr 2) 1 8 (ct 2)), (wJ g (rr 3) 1 8 (ct 3)), (wJ g (rr 4) 1 8 (ct 4)), (wJ g (rr 5) 1 8 (ct 5)), (wJ g (rr 6) 1 8 (ct 6)), (wJ g (rr 7) 1 8 (ct 7)), (wO10 vs vs_part vsw), (wJ g vs_part 1 12 vsp)] s.heap.size = A at hD ⊢
  have hA : ∀ q : Nat, s.heap.size ≤ q → A q := fun q h => by rw [← hAe]; exact Or.inr h
  have hS : va_S A s.heap s.heap [] := va_S.rf
  have hP : va_P D vwCl [(wO0 co n eq co_place), (wO2 n n_nodes n_kind n_pay n_name n_ways n_held n_targets n_weights), (wI g n_kind 0 12 n_fkind), (wI g n_pay 0 12 n_fpay), (wI g n_ways 0 12 n_fways), (wI g n_held 0 12 n_fheld), (wI g n_targets 0 36 n_ftargets), (wI g n_weights 0 36 n_fweights), (wI g co_place 0 12 pcf), (wO1 eq eq_rows eq_right ew), (wJ g eq_right 1 8 fr), (wR g eq_rows 5 8 (fun i => if i < 8 then some (rr i) else none)), (wJ g (rr 0) 1 8 (ct 0)), (wJ g (rr 1) 1 8 (ct 1)), (wJ g (rr 2) 1 8 (ct 2)), (wJ g (rr 3) 1 8 (ct 3)), (wJ g (rr 4) 1 8 (ct 4)), (wJ g (rr 5) 1 8 (ct 5)), (wJ g (rr 6) 1 8 (ct 6)), (wJ g (rr 7) 1 8 (ct 7)), (wO10 vs vs_part vsw), (wJ g vs_part 1 12 vsp)] s.heap := hP
  refine W.eq (g2 := entryFrame m ([.ref co, .int p0, .ref vs] : List Value).toArray 4) (by rw [ha]) ?_
  have hl := lv_entry ([.ref co, .int p0, .ref vs]) (n := 4) (Nat.le_of_ble_eq_true rfl)
  rw [lg_entry_eq]
  generalize (lg_sl ([.ref co, .int p0, .ref vs]) ++ List.replicate (4 - (lg_sl ([.ref co, .int p0, .ref vs])).length) Slot.unset).toArray = ls at hl ⊢
  have hl : lv_has ls 4 [(0, .ref co), (1, .int p0), (2, .ref vs)] := hl
  refine lv_aload_n hx hb dX0_finish_0 rfl (lv_at hl 0 rfl) ?_
  refine va_get (D := D) (ci := 0) (v := .ref eq) (C := RX0) (T := TX0) (N := 3) hx hb hts inlX0 hown hK hP 0 rfl rfl 1 (by decide) (hts (Cond.fieldLink RX0 12 "ChanceRings$Course" "equations" "LChanceRings$Equations;") qw_497) (fun _ h9 => h9) rfl dX0_finish_1 ?_
  refine lv_iload_n hx hb dX0_finish_4 rfl (lv_at hl 1 rfl) ?_
  have hPc := hP.sub (ws' := [(wO1 eq eq_rows eq_right ew), (wJ g eq_right 1 8 fr), (wR g eq_rows 5 8 (fun i => if i < 8 then some (rr i) else none)), (wJ g (rr 0) 1 8 (ct 0)), (wJ g (rr 1) 1 8 (ct 1)), (wJ g (rr 2) 1 8 (ct 2)), (wJ g (rr 3) 1 8 (ct 3)), (wJ g (rr 4) 1 8 (ct 4)), (wJ g (rr 5) 1 8 (ct 5)), (wJ g (rr 6) 1 8 (ct 6)), (wJ g (rr 7) 1 8 (ct 7))]) [9, 10, 11, 12, 13, 14, 15, 16, 17, 18, 19] rfl
  have hDc := hD.sub (ws' := [(wO1 eq eq_rows eq_right ew), (wJ g eq_right 1 8 fr), (wR g eq_rows 5 8 (fun i => if i < 8 then some (rr i) else none)), (wJ g (rr 0) 1 8 (ct 0)), (wJ g (rr 1) 1 8 (ct 1)), (wJ g (rr 2) 1 8 (ct 2)), (wJ g (rr 3) 1 8 (ct 3)), (wJ g (rr 4) 1 8 (ct 4)), (wJ g (rr 5) 1 8 (ct 5)), (wJ g (rr 6) 1 8 (ct 6)), (wJ g (rr 7) 1 8 (ct 7))]) [9, 10, 11, 12, 13, 14, 15, 16, 17, 18, 19] (by decide) rfl
  have hFc := va_free (wc := [(wO1 eq eq_rows eq_right ew), (wJ g eq_right 1 8 fr), (wR g eq_rows 5 8 (fun i => if i < 8 then some (rr i) else none)), (wJ g (rr 0) 1 8 (ct 0)), (wJ g (rr 1) 1 8 (ct 1)), (wJ g (rr 2) 1 8 (ct 2)), (wJ g (rr 3) 1 8 (ct 3)), (wJ g (rr 4) 1 8 (ct 4)), (wJ g (rr 5) 1 8 (ct 5)), (wJ g (rr 6) 1 8 (ct 6)), (wJ g (rr 7) 1 8 (ct 7))]) hD hS hA [9, 10, 11, 12, 13, 14, 15, 16, 17, 18, 19] rfl
  refine va_callv (va_runV (As := [.int p0]) (rest := []) ⟨hx, hb, hml, hown, hts⟩ (c_X1_solve l D g s.heap.size eq p0 eq_rows eq_right ew fr rr ct (tr_w h_p0 (by decide) (by decide))) (cwV 1 hts (tz_gV qw_508 qw_509 qw_510 qw_482 qw_511) rfl rfl rfl (by decide +kernel) ⟨Nat.le_of_ble_eq_true rfl, Nat.le_of_ble_eq_true rfl⟩) ⟨tz_blQ, va_recv hK hPc (ci := 1) (q0 := 0) rfl rfl, tz_preQ hPc hK hDc⟩ rfl rfl hl.1 rfl (lv_room (Nat.le_of_ble_eq_true rfl)) dX0_finish_5 ⟨Nat.le_of_ble_eq_true rfl, Nat.le_of_ble_eq_true rfl⟩) hS (fun q _ h => hFc q h) hFc (fun u t H1 locs ht hvm hw hB hz1 hk1 hS => ?_)
  obtain ⟨oew_67486, ofr_67487, oct_67488, hP1, hD1⟩ := hB
  rw [ht] at hP1
  obtain ⟨hP, hD⟩ := va_join (wr := [(wO0 co n eq co_place), (wO2 n n_nodes n_kind n_pay n_name n_ways n_held n_targets n_weights), (wI g n_kind 0 12 n_fkind), (wI g n_pay 0 12 n_fpay), (wI g n_ways 0 12 n_fways), (wI g n_held 0 12 n_fheld), (wI g n_targets 0 36 n_ftargets), (wI g n_weights 0 36 n_fweights), (wI g co_place 0 12 pcf), (wO10 vs vs_part vsw), (wJ g vs_part 1 12 vsp)]) (w1 := [(wO1 eq eq_rows eq_right oew_67486), (wJ g eq_right 1 8 ofr_67487), (wR g eq_rows 5 8 (fun i => if i < 8 then some (rr i) else none)), (wJ g (rr 0) 1 8 (oct_67488 0)), (wJ g (rr 1) 1 8 (oct_67488 1)), (wJ g (rr 2) 1 8 (oct_67488 2)), (wJ g (rr 3) 1 8 (oct_67488 3)), (wJ g (rr 4) 1 8 (oct_67488 4)), (wJ g (rr 5) 1 8 (oct_67488 5)), (wJ g (rr 6) 1 8 (oct_67488 6)), (wJ g (rr 7) 1 8 (oct_67488 7))]) hP hD [9, 10, 11, 12, 13, 14, 15, 16, 17, 18, 19] [0, 1, 2, 3, 4, 5, 6, 7, 8, 20, 21] rfl rfl (by decide) (by decide) hk1 hFc hP1 hD1
  generalize H1 = H at hP hS ⊢
  have hP : va_P D vwCl [(wO0 co n eq co_place), (wO2 n n_nodes n_kind n_pay n_name n_ways n_held n_targets n_weights), (wI g n_kind 0 12 n_fkind), (wI g n_pay 0 12 n_fpay), (wI g n_ways 0 12 n_fways), (wI g n_held 0 12 n_fheld), (wI g n_targets 0 36 n_ftargets), (wI g n_weights 0 36 n_fweights), (wI g co_place 0 12 pcf), (wO10 vs vs_part vsw), (wJ g vs_part 1 12 vsp), (wO1 eq eq_rows eq_right oew_67486), (wJ g eq_right 1 8 ofr_67487), (wR g eq_rows 5 8 (fun i => if i < 8 then some (rr i) else none)), (wJ g (rr 0) 1 8 (oct_67488 0)), (wJ g (rr 1) 1 8 (oct_67488 1)), (wJ g (rr 2) 1 8 (oct_67488 2)), (wJ g (rr 3) 1 8 (oct_67488 3)), (wJ g (rr 4) 1 8 (oct_67488 4)), (wJ g (rr 5) 1 8 (oct_67488 5)), (wJ g (rr 6) 1 8 (oct_67488 6)), (wJ g (rr 7) 1 8 (oct_67488 7))] H := hP
  have hD : va_D A [(wO0 co n eq co_place), (wO2 n n_nodes n_kind n_pay n_name n_ways n_held n_targets n_weights), (wI g n_kind 0 12 n_fkind), (wI g n_pay 0 12 n_fpay), (wI g n_ways 0 12 n_fways), (wI g n_held 0 12 n_fheld), (wI g n_targets 0 36 n_ftargets), (wI g n_weights 0 36 n_fweights), (wI g co_place 0 12 pcf), (wO10 vs vs_part vsw), (wJ g vs_part 1 12 vsp), (wO1 eq eq_rows eq_right oew_67486), (wJ g eq_right 1 8 ofr_67487), (wR g eq_rows 5 8 (fun i => if i < 8 then some (rr i) else none)), (wJ g (rr 0) 1 8 (oct_67488 0)), (wJ g (rr 1) 1 8 (oct_67488 1)), (wJ g (rr 2) 1 8 (oct_67488 2)), (wJ g (rr 3) 1 8 (oct_67488 3)), (wJ g (rr 4) 1 8 (oct_67488 4)), (wJ g (rr 5) 1 8 (oct_67488 5)), (wJ g (rr 6) 1 8 (oct_67488 6)), (wJ g (rr 7) 1 8 (oct_67488 7))] := hD
  refine lv_aload_n hx hb dX0_finish_8 rfl (lv_at hl 2 rfl) ?_
  refine lv_aload_n hx hb dX0_finish_9 rfl (lv_at hl 0 rfl) ?_
  refine va_get (D := D) (ci := 0) (v := .ref eq) (C := RX0) (T := TX0) (N := 3) hx hb hts inlX0 hown hK hP 0 rfl rfl 1 (by decide) (hts (Cond.fieldLink RX0 12 "ChanceRings$Course" "equations" "LChanceRings$Equations;") qw_497) (fun _ h9 => h9) rfl dX0_finish_10 ?_
  refine va_get (D := D) (ci := 1) (v := .long oew_67486) (C := RX1) (T := TX1) (N := 3) hx hb hts inlX1 hown hK hP 11 rfl rfl 2 (by decide) (hts (Cond.fieldLink RX0 95 "ChanceRings$Equations" "whole" "J") qw_512) (fun _ h9 => h9) rfl dX0_finish_13 ?_
  refine va_put (D := D) (ci := 10) (v := .long oew_67486) (ty := .long) (C := RX10) (T := TX10) (N := 2) hx hb hts inlX10 tyX10 tyX10_ok nmX10 hown hK hP hD hS 9 rfl rfl 1 (by decide) (hts (Cond.fieldLink RX0 73 "ChanceRings$Values" "whole" "J") qw_513) (fun _ h9 => h9) rfl (by decide +kernel) rfl rfl (Nat.le_of_ble_eq_true rfl) dX0_finish_16 (fun H locs hP hD hS => ?_)
  have hP : va_P D vwCl [(wO0 co n eq co_place), (wO2 n n_nodes n_kind n_pay n_name n_ways n_held n_targets n_weights), (wI g n_kind 0 12 n_fkind), (wI g n_pay 0 12 n_fpay), (wI g n_ways 0 12 n_fways), (wI g n_held 0 12 n_fheld), (wI g n_targets 0 36 n_ftargets), (wI g n_weights 0 36 n_fweights), (wI g co_place 0 12 pcf), (wO10 vs vs_part oew_67486), (wJ g vs_part 1 12 vsp), (wO1 eq eq_rows eq_right oew_67486), (wJ g eq_right 1 8 ofr_67487), (wR g eq_rows 5 8 (fun i => if i < 8 then some (rr i) else none)), (wJ g (rr 0) 1 8 (oct_67488 0)), (wJ g (rr 1) 1 8 (oct_67488 1)), (wJ g (rr 2) 1 8 (oct_67488 2)), (wJ g (rr 3) 1 8 (oct_67488 3)), (wJ g (rr 4) 1 8 (oct_67488 4)), (wJ g (rr 5) 1 8 (oct_67488 5)), (wJ g (rr 6) 1 8 (oct_67488 6)), (wJ g (rr 7) 1 8 (oct_67488 7))] H := hP
  have hD : va_D A [(wO0 co n eq co_place), (wO2 n n_nodes n_kind n_pay n_name n_ways n_held n_targets n_weights), (wI g n_kind 0 12 n_fkind), (wI g n_pay 0 12 n_fpay), (wI g n_ways 0 12 n_fways), (wI g n_held 0 12 n_fheld), (wI g n_targets 0 36 n_ftargets), (wI g n_weights 0 36 n_fweights), (wI g co_place 0 12 pcf), (wO10 vs vs_part oew_67486), (wJ g vs_part 1 12 vsp), (wO1 eq eq_rows eq_right oew_67486), (wJ g eq_right 1 8 ofr_67487), (wR g eq_rows 5 8 (fun i => if i < 8 then some (rr i) else none)), (wJ g (rr 0) 1 8 (oct_67488 0)), (wJ g (rr 1) 1 8 (oct_67488 1)), (wJ g (rr 2) 1 8 (oct_67488 2)), (wJ g (rr 3) 1 8 (oct_67488 3)), (wJ g (rr 4) 1 8 (oct_67488 4)), (wJ g (rr 5) 1 8 (oct_67488 5)), (wJ g (rr 6) 1 8 (oct_67488 6)), (wJ g (rr 7) 1 8 (oct_67488 7))] := hD
  refine lv_iconst (v := 0) hx hb dX0_finish_19 (by decide) ?_
  refine lv_istore_n (lv' := [(3, .int 0), (0, .ref co), (1, .int p0), (2, .ref vs)]) hx hb dX0_finish_20 rfl hl (by decide) rfl (fun ls hl => ?_)
  have lp_67599 : ∀ (n_67599 : Nat) (x_67597 : Int32) (f_67598 : Nat → Int64) (H : Heap) (locs : List Loc) (ls : Array Slot), (0 ≤ (x_67597 : Int32).toInt ∧ (x_67597 : Int32).toInt ≤ 12) → (12 - x_67597.toInt < (n_67599 : Int)) → va_P D vwCl [(wO0 co n eq co_place), (wO2 n n_nodes n_kind n_pay n_name n_ways n_held n_targets n_weights), (wI g n_kind 0 12 n_fkind), (wI g n_pay 0 12 n_fpay), (wI g n_ways 0 12 n_fways), (wI g n_held 0 12 n_fheld), (wI g n_targets 0 36 n_ftargets), (wI g n_weights 0 36 n_fweights), (wI g co_place 0 12 pcf), (wO10 vs vs_part oew_67486), (wJ g vs_part 1 12 f_67598), (wO1 eq eq_rows eq_right oew_67486), (wJ g eq_right 1 8 ofr_67487), (wR g eq_rows 5 8 (fun i => if i < 8 then some (rr i) else none)), (wJ g (rr 0) 1 8 (oct_67488 0)), (wJ g (rr 1) 1 8 (oct_67488 1)), (wJ g (rr 2) 1 8 (oct_67488 2)), (wJ g (rr 3) 1 8 (oct_67488 3)), (wJ g (rr 4) 1 8 (oct_67488 4)), (wJ g (rr 5) 1 8 (oct_67488 5)), (wJ g (rr 6) 1 8 (oct_67488 6)), (wJ g (rr 7) 1 8 (oct_67488 7))] H → va_D A [(wO0 co n eq co_place), (wO2 n n_nodes n_kind n_pay n_name n_ways n_held n_targets n_weights), (wI g n_kind 0 12 n_fkind), (wI g n_pay 0 12 n_fpay), (wI g n_ways 0 12 n_fways), (wI g n_held 0 12 n_fheld), (wI g n_targets 0 36 n_ftargets), (wI g n_weights 0 36 n_fweights), (wI g co_place 0 12 pcf), (wO10 vs vs_part oew_67486), (wJ g vs_part 1 12 f_67598), (wO1 eq eq_rows eq_right oew_67486), (wJ g eq_right 1 8 ofr_67487), (wR g eq_rows 5 8 (fun i => if i < 8 then some (rr i) else none)), (wJ g (rr 0) 1 8 (oct_67488 0)), (wJ g (rr 1) 1 8 (oct_67488 1)), (wJ g (rr 2) 1 8 (oct_67488 2)), (wJ g (rr 3) 1 8 (oct_67488 3)), (wJ g (rr 4) 1 8 (oct_67488 4)), (wJ g (rr 5) 1 8 (oct_67488 5)), (wJ g (rr 6) 1 8 (oct_67488 6)), (wJ g (rr 7) 1 8 (oct_67488 7))] → va_S A s.heap H locs → lv_has ls 4 [(3, .int x_67597), (0, .ref co), (1, .int p0), (2, .ref vs)] → W p l e (headSpec (.code yX0_finish cX0_finish 4 none :: wsL_law) ({ frames := 2, cells := 0, slots := 0, locals := 55 })).room s m args below meth c H locs 0 0 (MQ below (va_Qv (fun (_ : Unit) => True) (fun _ t => ∃ oew : Int64, ∃ ofr : Nat → Int64, ∃ ovw : Int64, ∃ ovp : Nat → Int64, ∃ oct : Nat → Nat → Int64, va_P D vwCl [(wO0 co n eq co_place), (wO2 n n_nodes n_kind n_pay n_name n_ways n_held n_targets n_weights), (wI g n_kind 0 12 n_fkind), (wI g n_pay 0 12 n_fpay), (wI g n_ways 0 12 n_fways), (wI g n_held 0 12 n_fheld), (wI g n_targets 0 36 n_ftargets), (wI g n_weights 0 36 n_fweights), (wI g co_place 0 12 pcf), (wO1 eq eq_rows eq_right oew), (wJ g eq_right 1 8 ofr), (wR g eq_rows 5 8 (fun i => if i < 8 then some (rr i) else none)), (wJ g (rr 0) 1 8 (oct 0)), (wJ g (rr 1) 1 8 (oct 1)), (wJ g (rr 2) 1 8 (oct 2)), (wJ g (rr 3) 1 8 (oct 3)), (wJ g (rr 4) 1 8 (oct 4)), (wJ g (rr 5) 1 8 (oct 5)), (wJ g (rr 6) 1 8 (oct 6)), (wJ g (rr 7) 1 8 (oct 7)), (wO10 vs vs_part ovw), (wJ g vs_part 1 12 ovp)] t.heap ∧ va_D A [(wO0 co n eq co_place), (wO2 n n_nodes n_kind n_pay n_name n_ways n_held n_targets n_weights), (wI g n_kind 0 12 n_fkind), (wI g n_pay 0 12 n_fpay), (wI g n_ways 0 12 n_fways), (wI g n_held 0 12 n_fheld), (wI g n_targets 0 36 n_ftargets), (wI g n_weights 0 36 n_fweights), (wI g co_place 0 12 pcf), (wO1 eq eq_rows eq_right oew), (wJ g eq_right 1 8 ofr), (wR g eq_rows 5 8 (fun i => if i < 8 then some (rr i) else none)), (wJ g (rr 0) 1 8 (oct 0)), (wJ g (rr 1) 1 8 (oct 1)), (wJ g (rr 2) 1 8 (oct 2)), (wJ g (rr 3) 1 8 (oct 3)), (wJ g (rr 4) 1 8 (oct 4)), (wJ g (rr 5) 1 8 (oct 5)), (wJ g (rr 6) 1 8 (oct 6)), (wJ g (rr 7) 1 8 (oct 7)), (wO10 vs vs_part ovw), (wJ g vs_part 1 12 ovp)]) A) args s 0 0 A) (F0 m 21 ls []) := by
    intro n_67599
    induction n_67599 with
    | zero =>
      intro x_67597 f_67598 H locs ls h_x_67597 hm_67599 hP hD hS hl
      exfalso; omega
    | succ n_67599 ih_67599 =>
      intro x_67597 f_67598 H locs ls h_x_67597 hm_67599 hP hD hS hl
      refine lv_iload_n hx hb dX0_finish_21 rfl (lv_at hl 0 rfl) ?_
      refine lv_aload_n hx hb dX0_finish_22 rfl (lv_at hl 1 rfl) ?_
      refine va_get (D := D) (ci := 0) (v := .ref n) (C := RX0) (T := TX0) (N := 3) hx hb hts inlX0 hown hK hP 0 rfl rfl 0 (by decide) (hts (Cond.fieldLink RX0 22 "ChanceRings$Course" "net" "LChanceRings$Net;") qw_463) (fun _ h9 => h9) rfl dX0_finish_23 ?_
      refine va_get (D := D) (ci := 2) (v := .int n_nodes) (C := RX2) (T := TX2) (N := 8) hx hb hts inlX2 hown hK hP 1 rfl rfl 0 (by decide) (hts (Cond.fieldLink RX0 49 "ChanceRings$Net" "nodes" "I") qw_473) (fun _ h9 => h9) rfl dX0_finish_26 ?_
      refine lv_icmp_ge (tgt := 72) hx hb dX0_finish_29 (by decide) (fun c_67600 => ?_) (fun c_67600 => ?_)
      · skip
        have hP9 := hP.sub (ws' := [(wO0 co n eq co_place), (wO2 n n_nodes n_kind n_pay n_name n_ways n_held n_targets n_weights), (wI g n_kind 0 12 n_fkind), (wI g n_pay 0 12 n_fpay), (wI g n_ways 0 12 n_fways), (wI g n_held 0 12 n_fheld), (wI g n_targets 0 36 n_ftargets), (wI g n_weights 0 36 n_fweights), (wI g co_place 0 12 pcf), (wO1 eq eq_rows eq_right oew_67486), (wJ g eq_right 1 8 ofr_67487), (wR g eq_rows 5 8 (fun i => if i < 8 then some (rr i) else none)), (wJ g (rr 0) 1 8 (oct_67488 0)), (wJ g (rr 1) 1 8 (oct_67488 1)), (wJ g (rr 2) 1 8 (oct_67488 2)), (wJ g (rr 3) 1 8 (oct_67488 3)), (wJ g (rr 4) 1 8 (oct_67488 4)), (wJ g (rr 5) 1 8 (oct_67488 5)), (wJ g (rr 6) 1 8 (oct_67488 6)), (wJ g (rr 7) 1 8 (oct_67488 7)), (wO10 vs vs_part oew_67486), (wJ g vs_part 1 12 f_67598)]) [0, 1, 2, 3, 4, 5, 6, 7, 8, 11, 12, 13, 14, 15, 16, 17, 18, 19, 20, 21, 9, 10] rfl
        have hD9 := hD.sub (ws' := [(wO0 co n eq co_place), (wO2 n n_nodes n_kind n_pay n_name n_ways n_held n_targets n_weights), (wI g n_kind 0 12 n_fkind), (wI g n_pay 0 12 n_fpay), (wI g n_ways 0 12 n_fways), (wI g n_held 0 12 n_fheld), (wI g n_targets 0 36 n_ftargets), (wI g n_weights 0 36 n_fweights), (wI g co_place 0 12 pcf), (wO1 eq eq_rows eq_right oew_67486), (wJ g eq_right 1 8 ofr_67487), (wR g eq_rows 5 8 (fun i => if i < 8 then some (rr i) else none)), (wJ g (rr 0) 1 8 (oct_67488 0)), (wJ g (rr 1) 1 8 (oct_67488 1)), (wJ g (rr 2) 1 8 (oct_67488 2)), (wJ g (rr 3) 1 8 (oct_67488 3)), (wJ g (rr 4) 1 8 (oct_67488 4)), (wJ g (rr 5) 1 8 (oct_67488 5)), (wJ g (rr 6) 1 8 (oct_67488 6)), (wJ g (rr 7) 1 8 (oct_67488 7)), (wO10 vs vs_part oew_67486), (wJ g vs_part 1 12 f_67598)]) [0, 1, 2, 3, 4, 5, 6, 7, 8, 11, 12, 13, 14, 15, 16, 17, 18, 19, 20, 21, 9, 10] (by decide) rfl
        exact W.vret hx hb hr (fun t ht hW => ⟨⟨(), rfl, trivial, oew_67486, ofr_67487, oew_67486, f_67598, oct_67488, by rw [ht]; exact hP9, hD9⟩, hS.F ht⟩) hS.2.2 dX0_finish_72
      · skip
        have c_67600_i := Int32.lt_iff_toInt_lt.mp (Int32.not_le.mp c_67600)
        have h_67601 : 0 ≤ (x_67597 : Int32).toInt ∧ (x_67597 : Int32).toInt ≤ 11 := nr_lt_l h_x_67597 h_n_nodes c_67600_i (by decide) (by decide)
        have h_67602 : 1 ≤ (n_nodes : Int32).toInt ∧ (n_nodes : Int32).toInt ≤ 12 := nr_lt_r h_x_67597 h_n_nodes c_67600_i (by decide) (by decide)
        refine lv_aload_n hx hb dX0_finish_32 rfl (lv_at hl 3 rfl) ?_
        refine va_get (D := D) (ci := 10) (v := .ref vs_part) (C := RX10) (T := TX10) (N := 2) hx hb hts inlX10 hown hK hP 9 rfl rfl 0 (by decide) (hts (Cond.fieldLink RX0 65 "ChanceRings$Values" "part" "[J") qw_514) (fun _ h9 => h9) rfl dX0_finish_33 ?_
        refine lv_iload_n hx hb dX0_finish_36 rfl (lv_at hl 0 rfl) ?_
        refine lv_aload_n hx hb dX0_finish_37 rfl (lv_at hl 1 rfl) ?_
        refine va_get (D := D) (ci := 0) (v := .ref co_place) (C := RX0) (T := TX0) (N := 3) hx hb hts inlX0 hown hK hP 0 rfl rfl 2 (by decide) (hts (Cond.fieldLink RX0 18 "ChanceRings$Course" "place" "[I") qw_474) (fun _ h9 => h9) rfl dX0_finish_38 ?_
        refine lv_iload_n hx hb dX0_finish_41 rfl (lv_at hl 0 rfl) ?_
        refine va_iald hx hb hK hP 8 0 rfl rfl (tr_in h_67601 (by decide) (by decide)) dX0_finish_42 ?_
        refine lv_topi (fun v_67603 v_67603_e => ?_)
        have h_v_67603 : (-1) ≤ (v_67603 : Int32).toInt ∧ (v_67603 : Int32).toInt ≤ 7 := by rw [v_67603_e]; exact h_pcf _
        refine lv_iconst (v := (-1)) hx hb dX0_finish_43 (by decide) ?_
        refine lv_icmp_ne (tgt := 51) hx hb dX0_finish_44 (by decide) (fun c_67604 => ?_) (fun c_67604 => ?_)
        · skip
          have c_67604_i : ¬ (v_67603 : Int32).toInt = ((-1) : Int32).toInt := (fun q => c_67604 (Int32.toInt_inj.mp q))
          have h_67605 : 0 ≤ (v_67603 : Int32).toInt ∧ (v_67603 : Int32).toInt ≤ 7 := nr_ne_l h_v_67603 (⟨by decide, by decide⟩ : (-1) ≤ ((-1) : Int32).toInt ∧ ((-1) : Int32).toInt ≤ (-1)) c_67604_i (by decide) (by decide)
          refine lv_aload_n hx hb dX0_finish_51 rfl (lv_at hl 1 rfl) ?_
          refine va_get (D := D) (ci := 0) (v := .ref eq) (C := RX0) (T := TX0) (N := 3) hx hb hts inlX0 hown hK hP 0 rfl rfl 1 (by decide) (hts (Cond.fieldLink RX0 12 "ChanceRings$Course" "equations" "LChanceRings$Equations;") qw_497) (fun _ h9 => h9) rfl dX0_finish_52 ?_
          refine va_get (D := D) (ci := 1) (v := .ref eq_right) (C := RX1) (T := TX1) (N := 3) hx hb hts inlX1 hown hK hP 11 rfl rfl 1 (by decide) (hts (Cond.fieldLink RX0 53 "ChanceRings$Equations" "right" "[J") qw_515) (fun _ h9 => h9) rfl dX0_finish_55 ?_
          refine lv_aload_n hx hb dX0_finish_58 rfl (lv_at hl 1 rfl) ?_
          refine va_get (D := D) (ci := 0) (v := .ref co_place) (C := RX0) (T := TX0) (N := 3) hx hb hts inlX0 hown hK hP 0 rfl rfl 2 (by decide) (hts (Cond.fieldLink RX0 18 "ChanceRings$Course" "place" "[I") qw_474) (fun _ h9 => h9) rfl dX0_finish_59 ?_
          refine lv_iload_n hx hb dX0_finish_62 rfl (lv_at hl 0 rfl) ?_
          refine va_iald hx hb hK hP 8 0 rfl rfl (tr_in h_67601 (by decide) (by decide)) dX0_finish_63 ?_
          refine tz_i (y := v_67603) v_67603_e.symm ?_
          refine va_lald hx hb hK hP 12 1 rfl rfl (tr_in h_67605 (by decide) (by decide)) dX0_finish_64 ?_
          refine lv_topl (fun w_67607 _ => ?_)
          refine va_last hx hb hK hP hD hS 10 1 rfl rfl (tr_in h_67601 (by decide) (by decide)) dX0_finish_65 (fun H locs hP hD hS => ?_)
          obtain ⟨f_67608, hP, hD⟩ : ∃ FX : Nat → Int64, va_P D vwCl [(wO0 co n eq co_place), (wO2 n n_nodes n_kind n_pay n_name n_ways n_held n_targets n_weights), (wI g n_kind 0 12 n_fkind), (wI g n_pay 0 12 n_fpay), (wI g n_ways 0 12 n_fways), (wI g n_held 0 12 n_fheld), (wI g n_targets 0 36 n_ftargets), (wI g n_weights 0 36 n_fweights), (wI g co_place 0 12 pcf), (wO10 vs vs_part oew_67486), (wJ g vs_part 1 12 FX), (wO1 eq eq_rows eq_right oew_67486), (wJ g eq_right 1 8 ofr_67487), (wR g eq_rows 5 8 (fun i => if i < 8 then some (rr i) else none)), (wJ g (rr 0) 1 8 (oct_67488 0)), (wJ g (rr 1) 1 8 (oct_67488 1)), (wJ g (rr 2) 1 8 (oct_67488 2)), (wJ g (rr 3) 1 8 (oct_67488 3)), (wJ g (rr 4) 1 8 (oct_67488 4)), (wJ g (rr 5) 1 8 (oct_67488 5)), (wJ g (rr 6) 1 8 (oct_67488 6)), (wJ g (rr 7) 1 8 (oct_67488 7))] H ∧ va_D A [(wO0 co n eq co_place), (wO2 n n_nodes n_kind n_pay n_name n_ways n_held n_targets n_weights), (wI g n_kind 0 12 n_fkind), (wI g n_pay 0 12 n_fpay), (wI g n_ways 0 12 n_fways), (wI g n_held 0 12 n_fheld), (wI g n_targets 0 36 n_ftargets), (wI g n_weights 0 36 n_fweights), (wI g co_place 0 12 pcf), (wO10 vs vs_part oew_67486), (wJ g vs_part 1 12 FX), (wO1 eq eq_rows eq_right oew_67486), (wJ g eq_right 1 8 ofr_67487), (wR g eq_rows 5 8 (fun i => if i < 8 then some (rr i) else none)), (wJ g (rr 0) 1 8 (oct_67488 0)), (wJ g (rr 1) 1 8 (oct_67488 1)), (wJ g (rr 2) 1 8 (oct_67488 2)), (wJ g (rr 3) 1 8 (oct_67488 3)), (wJ g (rr 4) 1 8 (oct_67488 4)), (wJ g (rr 5) 1 8 (oct_67488 5)), (wJ g (rr 6) 1 8 (oct_67488 6)), (wJ g (rr 7) 1 8 (oct_67488 7))] := ⟨_, hP, hD⟩
          have hP : va_P D vwCl [(wO0 co n eq co_place), (wO2 n n_nodes n_kind n_pay n_name n_ways n_held n_targets n_weights), (wI g n_kind 0 12 n_fkind), (wI g n_pay 0 12 n_fpay), (wI g n_ways 0 12 n_fways), (wI g n_held 0 12 n_fheld), (wI g n_targets 0 36 n_ftargets), (wI g n_weights 0 36 n_fweights), (wI g co_place 0 12 pcf), (wO10 vs vs_part oew_67486), (wJ g vs_part 1 12 f_67608), (wO1 eq eq_rows eq_right oew_67486), (wJ g eq_right 1 8 ofr_67487), (wR g eq_rows 5 8 (fun i => if i < 8 then some (rr i) else none)), (wJ g (rr 0) 1 8 (oct_67488 0)), (wJ g (rr 1) 1 8 (oct_67488 1)), (wJ g (rr 2) 1 8 (oct_67488 2)), (wJ g (rr 3) 1 8 (oct_67488 3)), (wJ g (rr 4) 1 8 (oct_67488 4)), (wJ g (rr 5) 1 8 (oct_67488 5)), (wJ g (rr 6) 1 8 (oct_67488 6)), (wJ g (rr 7) 1 8 (oct_67488 7))] H := hP
          have hD : va_D A [(wO0 co n eq co_place), (wO2 n n_nodes n_kind n_pay n_name n_ways n_held n_targets n_weights), (wI g n_kind 0 12 n_fkind), (wI g n_pay 0 12 n_fpay), (wI g n_ways 0 12 n_fways), (wI g n_held 0 12 n_fheld), (wI g n_targets 0 36 n_ftargets), (wI g n_weights 0 36 n_fweights), (wI g co_place 0 12 pcf), (wO10 vs vs_part oew_67486), (wJ g vs_part 1 12 f_67608), (wO1 eq eq_rows eq_right oew_67486), (wJ g eq_right 1 8 ofr_67487), (wR g eq_rows 5 8 (fun i => if i < 8 then some (rr i) else none)), (wJ g (rr 0) 1 8 (oct_67488 0)), (wJ g (rr 1) 1 8 (oct_67488 1)), (wJ g (rr 2) 1 8 (oct_67488 2)), (wJ g (rr 3) 1 8 (oct_67488 3)), (wJ g (rr 4) 1 8 (oct_67488 4)), (wJ g (rr 5) 1 8 (oct_67488 5)), (wJ g (rr 6) 1 8 (oct_67488 6)), (wJ g (rr 7) 1 8 (oct_67488 7))] := hD
          obtain ⟨v_67609, v_67609_e⟩ : ∃ y : Int32, y = x_67597 + Int32.ofInt 1 := ⟨_, rfl⟩
          have h_v_67609 : 1 ≤ (v_67609 : Int32).toInt ∧ (v_67609 : Int32).toInt ≤ 12 := by rw [v_67609_e]; exact tr_add h_67601 (⟨by decide, by decide⟩ : 1 ≤ (Int32.ofInt 1 : Int32).toInt ∧ (Int32.ofInt 1 : Int32).toInt ≤ 1) (by decide) (by decide) (by decide) (by decide)
          have q_v_67609 : v_67609.toInt = x_67597.toInt + 1 := by rw [v_67609_e]; exact tr_addE h_67601 (⟨by decide, by decide⟩ : 1 ≤ (Int32.ofInt 1 : Int32).toInt ∧ (Int32.ofInt 1 : Int32).toInt ≤ 1) (by decide) (by decide)
          refine lv_iinc (v := v_67609) (lv' := [(3, .int v_67609), (0, .ref co), (1, .int p0), (2, .ref vs)]) hx hb dX0_finish_66 hl (k := 0) rfl v_67609_e.symm (by decide) rfl (fun ls hl => ?_)
          refine lv_goto (tgt := 21) hx hb dX0_finish_69 (by decide) ?_
          exact ih_67599 v_67609 f_67608 H _ ls (tr_w h_v_67609 (by decide) (by decide)) (by (first | (clear h_p0 h_v_67603 c_67604_i h_67605; omega) | omega)) (hP.sub [0, 1, 2, 3, 4, 5, 6, 7, 8, 9, 10, 11, 12, 13, 14, 15, 16, 17, 18, 19, 20, 21] rfl) (hD.sub [0, 1, 2, 3, 4, 5, 6, 7, 8, 9, 10, 11, 12, 13, 14, 15, 16, 17, 18, 19, 20, 21] (by decide) rfl) hS (lv_sub hl [0, 1, 2, 3] rfl)
        · skip
          have c_67604_i : (v_67603 : Int32).toInt = ((-1) : Int32).toInt := congrArg Int32.toInt c_67604
          have h_67606 : (-1) ≤ (v_67603 : Int32).toInt ∧ (v_67603 : Int32).toInt ≤ (-1) := nr_eq_l h_v_67603 (⟨by decide, by decide⟩ : (-1) ≤ ((-1) : Int32).toInt ∧ ((-1) : Int32).toInt ≤ (-1)) c_67604_i (by decide) (by decide)
          refine lv_lconst (v := 0) hx hb dX0_finish_47 (by decide) ?_
          refine lv_goto (tgt := 65) hx hb dX0_finish_48 (by decide) ?_
          refine va_last hx hb hK hP hD hS 10 1 rfl rfl (tr_in h_67601 (by decide) (by decide)) dX0_finish_65 (fun H locs hP hD hS => ?_)
          obtain ⟨f_67610, hP, hD⟩ : ∃ FX : Nat → Int64, va_P D vwCl [(wO0 co n eq co_place), (wO2 n n_nodes n_kind n_pay n_name n_ways n_held n_targets n_weights), (wI g n_kind 0 12 n_fkind), (wI g n_pay 0 12 n_fpay), (wI g n_ways 0 12 n_fways), (wI g n_held 0 12 n_fheld), (wI g n_targets 0 36 n_ftargets), (wI g n_weights 0 36 n_fweights), (wI g co_place 0 12 pcf), (wO10 vs vs_part oew_67486), (wJ g vs_part 1 12 FX), (wO1 eq eq_rows eq_right oew_67486), (wJ g eq_right 1 8 ofr_67487), (wR g eq_rows 5 8 (fun i => if i < 8 then some (rr i) else none)), (wJ g (rr 0) 1 8 (oct_67488 0)), (wJ g (rr 1) 1 8 (oct_67488 1)), (wJ g (rr 2) 1 8 (oct_67488 2)), (wJ g (rr 3) 1 8 (oct_67488 3)), (wJ g (rr 4) 1 8 (oct_67488 4)), (wJ g (rr 5) 1 8 (oct_67488 5)), (wJ g (rr 6) 1 8 (oct_67488 6)), (wJ g (rr 7) 1 8 (oct_67488 7))] H ∧ va_D A [(wO0 co n eq co_place), (wO2 n n_nodes n_kind n_pay n_name n_ways n_held n_targets n_weights), (wI g n_kind 0 12 n_fkind), (wI g n_pay 0 12 n_fpay), (wI g n_ways 0 12 n_fways), (wI g n_held 0 12 n_fheld), (wI g n_targets 0 36 n_ftargets), (wI g n_weights 0 36 n_fweights), (wI g co_place 0 12 pcf), (wO10 vs vs_part oew_67486), (wJ g vs_part 1 12 FX), (wO1 eq eq_rows eq_right oew_67486), (wJ g eq_right 1 8 ofr_67487), (wR g eq_rows 5 8 (fun i => if i < 8 then some (rr i) else none)), (wJ g (rr 0) 1 8 (oct_67488 0)), (wJ g (rr 1) 1 8 (oct_67488 1)), (wJ g (rr 2) 1 8 (oct_67488 2)), (wJ g (rr 3) 1 8 (oct_67488 3)), (wJ g (rr 4) 1 8 (oct_67488 4)), (wJ g (rr 5) 1 8 (oct_67488 5)), (wJ g (rr 6) 1 8 (oct_67488 6)), (wJ g (rr 7) 1 8 (oct_67488 7))] := ⟨_, hP, hD⟩
          have hP : va_P D vwCl [(wO0 co n eq co_place), (wO2 n n_nodes n_kind n_pay n_name n_ways n_held n_targets n_weights), (wI g n_kind 0 12 n_fkind), (wI g n_pay 0 12 n_fpay), (wI g n_ways 0 12 n_fways), (wI g n_held 0 12 n_fheld), (wI g n_targets 0 36 n_ftargets), (wI g n_weights 0 36 n_fweights), (wI g co_place 0 12 pcf), (wO10 vs vs_part oew_67486), (wJ g vs_part 1 12 f_67610), (wO1 eq eq_rows eq_right oew_67486), (wJ g eq_right 1 8 ofr_67487), (wR g eq_rows 5 8 (fun i => if i < 8 then some (rr i) else none)), (wJ g (rr 0) 1 8 (oct_67488 0)), (wJ g (rr 1) 1 8 (oct_67488 1)), (wJ g (rr 2) 1 8 (oct_67488 2)), (wJ g (rr 3) 1 8 (oct_67488 3)), (wJ g (rr 4) 1 8 (oct_67488 4)), (wJ g (rr 5) 1 8 (oct_67488 5)), (wJ g (rr 6) 1 8 (oct_67488 6)), (wJ g (rr 7) 1 8 (oct_67488 7))] H := hP
          have hD : va_D A [(wO0 co n eq co_place), (wO2 n n_nodes n_kind n_pay n_name n_ways n_held n_targets n_weights), (wI g n_kind 0 12 n_fkind), (wI g n_pay 0 12 n_fpay), (wI g n_ways 0 12 n_fways), (wI g n_held 0 12 n_fheld), (wI g n_targets 0 36 n_ftargets), (wI g n_weights 0 36 n_fweights), (wI g co_place 0 12 pcf), (wO10 vs vs_part oew_67486), (wJ g vs_part 1 12 f_67610), (wO1 eq eq_rows eq_right oew_67486), (wJ g eq_right 1 8 ofr_67487), (wR g eq_rows 5 8 (fun i => if i < 8 then some (rr i) else none)), (wJ g (rr 0) 1 8 (oct_67488 0)), (wJ g (rr 1) 1 8 (oct_67488 1)), (wJ g (rr 2) 1 8 (oct_67488 2)), (wJ g (rr 3) 1 8 (oct_67488 3)), (wJ g (rr 4) 1 8 (oct_67488 4)), (wJ g (rr 5) 1 8 (oct_67488 5)), (wJ g (rr 6) 1 8 (oct_67488 6)), (wJ g (rr 7) 1 8 (oct_67488 7))] := hD
          obtain ⟨v_67611, v_67611_e⟩ : ∃ y : Int32, y = x_67597 + Int32.ofInt 1 := ⟨_, rfl⟩
          have h_v_67611 : 1 ≤ (v_67611 : Int32).toInt ∧ (v_67611 : Int32).toInt ≤ 12 := by rw [v_67611_e]; exact tr_add h_67601 (⟨by decide, by decide⟩ : 1 ≤ (Int32.ofInt 1 : Int32).toInt ∧ (Int32.ofInt 1 : Int32).toInt ≤ 1) (by decide) (by decide) (by decide) (by decide)
          have q_v_67611 : v_67611.toInt = x_67597.toInt + 1 := by rw [v_67611_e]; exact tr_addE h_67601 (⟨by decide, by decide⟩ : 1 ≤ (Int32.ofInt 1 : Int32).toInt ∧ (Int32.ofInt 1 : Int32).toInt ≤ 1) (by decide) (by decide)
          refine lv_iinc (v := v_67611) (lv' := [(3, .int v_67611), (0, .ref co), (1, .int p0), (2, .ref vs)]) hx hb dX0_finish_66 hl (k := 0) rfl v_67611_e.symm (by decide) rfl (fun ls hl => ?_)
          refine lv_goto (tgt := 21) hx hb dX0_finish_69 (by decide) ?_
          exact ih_67599 v_67611 f_67610 H _ ls (tr_w h_v_67611 (by decide) (by decide)) (by (first | (clear h_p0 h_v_67603 c_67604_i h_67606; omega) | omega)) (hP.sub [0, 1, 2, 3, 4, 5, 6, 7, 8, 9, 10, 11, 12, 13, 14, 15, 16, 17, 18, 19, 20, 21] rfl) (hD.sub [0, 1, 2, 3, 4, 5, 6, 7, 8, 9, 10, 11, 12, 13, 14, 15, 16, 17, 18, 19, 20, 21] (by decide) rfl) hS (lv_sub hl [0, 1, 2, 3] rfl)
  exact lp_67599 13 0 vsp H _ ls (⟨by decide, by decide⟩ : 0 ≤ (0 : Int32).toInt ∧ (0 : Int32).toInt ≤ 12) (by decide) (hP.sub [0, 1, 2, 3, 4, 5, 6, 7, 8, 9, 10, 11, 12, 13, 14, 15, 16, 17, 18, 19, 20, 21] rfl) (hD.sub [0, 1, 2, 3, 4, 5, 6, 7, 8, 9, 10, 11, 12, 13, 14, 15, 16, 17, 18, 19, 20, 21] (by decide) rfl) hS (lv_sub hl [0, 1, 2, 3] rfl)
set_option maxHeartbeats 4000000 in
set_option maxRecDepth 100000 in
theorem c_X0_expectPay (l : Launch) (D : va_G) (g : Nat → ClassId) (sz : Nat) (co : Nat) (pl : Nat) (p0 : Int32) (p1 : Int32) (p2 : Int32) (vs : Nat) (n : Nat) (eq : Nat) (co_place : Nat) (n_nodes : Int32) (n_kind : Nat) (n_pay : Nat) (n_name : Nat) (n_ways : Nat) (n_held : Nat) (n_targets : Nat) (n_weights : Nat) (n_fkind : Nat → Int32) (n_fpay : Nat → Int32) (n_fways : Nat → Int32) (n_fheld : Nat → Int32) (n_ftargets : Nat → Int32) (n_fweights : Nat → Int32) (pcf : Nat → Int32) (eq_rows : Nat) (eq_right : Nat) (ew : Int64) (fr : Nat → Int64) (rr : Nat → Nat) (ct : Nat → Nat → Int64) (plf : Nat → Int32) (vs_part : Nat) (vsw : Int64) (vsp : Nat → Int64) (h_n_nodes : 0 ≤ (n_nodes : Int32).toInt ∧ (n_nodes : Int32).toInt ≤ 12) (h_n_fkind : ∀ j : Nat, 0 ≤ (n_fkind j).toInt ∧ (n_fkind j).toInt ≤ 3) (h_n_fways : ∀ j : Nat, 0 ≤ (n_fways j).toInt ∧ (n_fways j).toInt ≤ 3) (h_n_fheld : ∀ j : Nat, (-1) ≤ (n_fheld j).toInt ∧ (n_fheld j).toInt ≤ 2) (h_n_ftargets : ∀ j : Nat, 0 ≤ (n_ftargets j).toInt ∧ (n_ftargets j).toInt ≤ 11) (h_pcf : ∀ j : Nat, (-1) ≤ (pcf j).toInt ∧ (pcf j).toInt ≤ 7) (h_plf : ∀ j : Nat, 0 ≤ (plf j).toInt ∧ (plf j).toInt ≤ 2) : Met l yX0_expectPay (.code yX0_expectPay cX0_expectPay 8 none :: wsL_law) ({ frames := 3, cells := 0, slots := 0, locals := 78 }) (va_Pc [.ref co, .ref pl, .int p0, .int p1, .int p2, .ref vs] (fun U => U.heap.size = sz ∧ va_P D vwCl [(wO0 co n eq co_place), (wO2 n n_nodes n_kind n_pay n_name n_ways n_held n_targets n_weights), (wI g n_kind 0 12 n_fkind), (wI g n_pay 0 12 n_fpay), (wI g n_ways 0 12 n_fways), (wI g n_held 0 12 n_fheld), (wI g n_targets 0 36 n_ftargets), (wI g n_weights 0 36 n_fweights), (wI g co_place 0 12 pcf), (wO1 eq eq_rows eq_right ew), (wJ g eq_right 1 8 fr), (wR g eq_rows 5 8 (fun i => if i < 8 then some (rr i) else none)), (wJ g (rr 0) 1 8 (ct 0)), (wJ g (rr 1) 1 8 (ct 1)), (wJ g (rr 2) 1 8 (ct 2)), (wJ g (rr 3) 1 8 (ct 3)), (wJ g (rr 4) 1 8 (ct 4)), (wJ g (rr 5) 1 8 (ct 5)), (wJ g (rr 6) 1 8 (ct 6)), (wJ g (rr 7) 1 8 (ct 7)), (wI g pl 0 12 plf), (wO10 vs vs_part vsw), (wJ g vs_part 1 12 vsp)] U.heap ∧ va_K D vwCl (TY g) U ∧ va_D (fun _ => True) [(wO0 co n eq co_place), (wO2 n n_nodes n_kind n_pay n_name n_ways n_held n_targets n_weights), (wI g n_kind 0 12 n_fkind), (wI g n_pay 0 12 n_fpay), (wI g n_ways 0 12 n_fways), (wI g n_held 0 12 n_fheld), (wI g n_targets 0 36 n_ftargets), (wI g n_weights 0 36 n_fweights), (wI g co_place 0 12 pcf), (wO1 eq eq_rows eq_right ew), (wJ g eq_right 1 8 fr), (wR g eq_rows 5 8 (fun i => if i < 8 then some (rr i) else none)), (wJ g (rr 0) 1 8 (ct 0)), (wJ g (rr 1) 1 8 (ct 1)), (wJ g (rr 2) 1 8 (ct 2)), (wJ g (rr 3) 1 8 (ct 3)), (wJ g (rr 4) 1 8 (ct 4)), (wJ g (rr 5) 1 8 (ct 5)), (wJ g (rr 6) 1 8 (ct 6)), (wJ g (rr 7) 1 8 (ct 7)), (wI g pl 0 12 plf), (wO10 vs vs_part vsw), (wJ g vs_part 1 12 vsp)])) (va_Qv (fun (_ : Unit) => True) (fun _ t => ∃ opc : Nat → Int32, ∃ oew : Int64, ∃ ofr : Nat → Int64, ∃ ovw : Int64, ∃ ovp : Nat → Int64, ∃ oct : Nat → Nat → Int64, (∀ j : Nat, (-1) ≤ (opc j).toInt ∧ (opc j).toInt ≤ 7) ∧ va_P D vwCl [(wO0 co n eq co_place), (wO2 n n_nodes n_kind n_pay n_name n_ways n_held n_targets n_weights), (wI g n_kind 0 12 n_fkind), (wI g n_pay 0 12 n_fpay), (wI g n_ways 0 12 n_fways), (wI g n_held 0 12 n_fheld), (wI g n_targets 0 36 n_ftargets), (wI g n_weights 0 36 n_fweights), (wI g co_place 0 12 opc), (wO1 eq eq_rows eq_right oew), (wJ g eq_right 1 8 ofr), (wR g eq_rows 5 8 (fun i => if i < 8 then some (rr i) else none)), (wJ g (rr 0) 1 8 (oct 0)), (wJ g (rr 1) 1 8 (oct 1)), (wJ g (rr 2) 1 8 (oct 2)), (wJ g (rr 3) 1 8 (oct 3)), (wJ g (rr 4) 1 8 (oct 4)), (wJ g (rr 5) 1 8 (oct 5)), (wJ g (rr 6) 1 8 (oct 6)), (wJ g (rr 7) 1 8 (oct 7)), (wI g pl 0 12 plf), (wO10 vs vs_part ovw), (wJ g vs_part 1 12 ovp)] t.heap ∧ va_D (va_A [(wO0 co n eq co_place), (wO2 n n_nodes n_kind n_pay n_name n_ways n_held n_targets n_weights), (wI g n_kind 0 12 n_fkind), (wI g n_pay 0 12 n_fpay), (wI g n_ways 0 12 n_fways), (wI g n_held 0 12 n_fheld), (wI g n_targets 0 36 n_ftargets), (wI g n_weights 0 36 n_fweights), (wI g co_place 0 12 pcf), (wO1 eq eq_rows eq_right ew), (wJ g eq_right 1 8 fr), (wR g eq_rows 5 8 (fun i => if i < 8 then some (rr i) else none)), (wJ g (rr 0) 1 8 (ct 0)), (wJ g (rr 1) 1 8 (ct 1)), (wJ g (rr 2) 1 8 (ct 2)), (wJ g (rr 3) 1 8 (ct 3)), (wJ g (rr 4) 1 8 (ct 4)), (wJ g (rr 5) 1 8 (ct 5)), (wJ g (rr 6) 1 8 (ct 6)), (wJ g (rr 7) 1 8 (ct 7)), (wI g pl 0 12 plf), (wO10 vs vs_part vsw), (wJ g vs_part 1 12 vsp)] sz) [(wO0 co n eq co_place), (wO2 n n_nodes n_kind n_pay n_name n_ways n_held n_targets n_weights), (wI g n_kind 0 12 n_fkind), (wI g n_pay 0 12 n_fpay), (wI g n_ways 0 12 n_fways), (wI g n_held 0 12 n_fheld), (wI g n_targets 0 36 n_ftargets), (wI g n_weights 0 36 n_fweights), (wI g co_place 0 12 opc), (wO1 eq eq_rows eq_right oew), (wJ g eq_right 1 8 ofr), (wR g eq_rows 5 8 (fun i => if i < 8 then some (rr i) else none)), (wJ g (rr 0) 1 8 (oct 0)), (wJ g (rr 1) 1 8 (oct 1)), (wJ g (rr 2) 1 8 (oct 2)), (wJ g (rr 3) 1 8 (oct 3)), (wJ g (rr 4) 1 8 (oct 4)), (wJ g (rr 5) 1 8 (oct 5)), (wJ g (rr 6) 1 8 (oct 6)), (wJ g (rr 7) 1 8 (oct 7)), (wI g pl 0 12 plf), (wO10 vs vs_part ovw), (wJ g vs_part 1 12 ovp)]) (va_A [(wO0 co n eq co_place), (wO2 n n_nodes n_kind n_pay n_name n_ways n_held n_targets n_weights), (wI g n_kind 0 12 n_fkind), (wI g n_pay 0 12 n_fpay), (wI g n_ways 0 12 n_fways), (wI g n_held 0 12 n_fheld), (wI g n_targets 0 36 n_ftargets), (wI g n_weights 0 36 n_fweights), (wI g co_place 0 12 pcf), (wO1 eq eq_rows eq_right ew), (wJ g eq_right 1 8 fr), (wR g eq_rows 5 8 (fun i => if i < 8 then some (rr i) else none)), (wJ g (rr 0) 1 8 (ct 0)), (wJ g (rr 1) 1 8 (ct 1)), (wJ g (rr 2) 1 8 (ct 2)), (wJ g (rr 3) 1 8 (ct 3)), (wJ g (rr 4) 1 8 (ct 4)), (wJ g (rr 5) 1 8 (ct 5)), (wJ g (rr 6) 1 8 (ct 6)), (wJ g (rr 7) 1 8 (ct 7)), (wI g pl 0 12 plf), (wO10 vs vs_part vsw), (wJ g vs_part 1 12 vsp)] sz)) 0 0 (va_A [(wO0 co n eq co_place), (wO2 n n_nodes n_kind n_pay n_name n_ways n_held n_targets n_weights), (wI g n_kind 0 12 n_fkind), (wI g n_pay 0 12 n_fpay), (wI g n_ways 0 12 n_fways), (wI g n_held 0 12 n_fheld), (wI g n_targets 0 36 n_ftargets), (wI g n_weights 0 36 n_fweights), (wI g co_place 0 12 pcf), (wO1 eq eq_rows eq_right ew), (wJ g eq_right 1 8 fr), (wR g eq_rows 5 8 (fun i => if i < 8 then some (rr i) else none)), (wJ g (rr 0) 1 8 (ct 0)), (wJ g (rr 1) 1 8 (ct 1)), (wJ g (rr 2) 1 8 (ct 2)), (wJ g (rr 3) 1 8 (ct 3)), (wJ g (rr 4) 1 8 (ct 4)), (wJ g (rr 5) 1 8 (ct 5)), (wJ g (rr 6) 1 8 (ct 6)), (wJ g (rr 7) 1 8 (ct 7)), (wI g pl 0 12 plf), (wO10 vs vs_part vsw), (wJ g vs_part 1 12 vsp)] sz) := by
  refine Met.ofW (cc := cX0_expectPay) (maxL := 8) (ret := none) (by decide) rfl ?_
  intro p e s m args below meth c s₁ B hml hv
  obtain ⟨ha, hsz, hP, hK, hD0⟩ := hv
  have hx := B.exec
  have hb := B.bytes
  have hr := B.returns
  have hts0 := atoms_spec (ws := (.code yX0_expectPay cX0_expectPay 8 none :: wsL_law)) B.pre
  have hts : ∀ w ∈ wsL_law, w.before args s = true := fun w h => hts0 w (List.mem_cons_of_mem _ h)
  have hown : s.vm.findClass RX0 = some m.cls := findClass_of_methodNamed B.named
  have hlocks := B.notSynchronized
  subst hsz
  have hD := hD0.self (sz := s.heap.size)
  generalize hAe : va_A [(wO0 co n eq co_place), (wO2 n n_nodes n_kind n_pay n_name n_ways n_held n_targets n_weights), (wI g n_kind 0 12 n_fkind), (wI g n_pay 0 12 n_fpay), (wI g n_ways 0 12 n_fways), (wI g n_held 0 12 n_fheld), (wI g n_targets 0 36 n_ftargets), (wI g n_weights 0 36 n_fweights), (wI g co_place 0 12 pcf), (wO1 eq eq_rows eq_right ew), (wJ g eq_right 1 8 fr), (wR g eq_rows 5 8 (fun i => if i < 8 then some (rr i) else none)), (wJ g (rr 0) 1 8 (ct 0)), (wJ g (rr 1) 1 8 (ct 1)), (wJ g (rr 2) 1 8 (ct 2)), (wJ g (rr 3) 1 8 (ct 3)), (wJ g (rr 4) 1 8 (ct 4)), (wJ g (rr 5) 1 8 (ct 5)), (wJ g (rr 6) 1 8 (ct 6)), (wJ g (rr 7) 1 8 (ct 7)), (wI g pl 0 12 plf), (wO10 vs vs_part vsw), (wJ g vs_part 1 12 vsp)] s.heap.size = A at hD ⊢
  have hA : ∀ q : Nat, s.heap.size ≤ q → A q := fun q h => by rw [← hAe]; exact Or.inr h
  have hS : va_S A s.heap s.heap [] := va_S.rf
  have hP : va_P D vwCl [(wO0 co n eq co_place), (wO2 n n_nodes n_kind n_pay n_name n_ways n_held n_targets n_weights), (wI g n_kind 0 12 n_fkind), (wI g n_pay 0 12 n_fpay), (wI g n_ways 0 12 n_fways), (wI g n_held 0 12 n_fheld), (wI g n_targets 0 36 n_ftargets), (wI g n_weights 0 36 n_fweights), (wI g co_place 0 12 pcf), (wO1 eq eq_rows eq_right ew), (wJ g eq_right 1 8 fr), (wR g eq_rows 5 8 (fun i => if i < 8 then some (rr i) else none)), (wJ g (rr 0) 1 8 (ct 0)), (wJ g (rr 1) 1 8 (ct 1)), (wJ g (rr 2) 1 8 (ct 2)), (wJ g (rr 3) 1 8 (ct 3)), (wJ g (rr 4) 1 8 (ct 4)), (wJ g (rr 5) 1 8 (ct 5)), (wJ g (rr 6) 1 8 (ct 6)), (wJ g (rr 7) 1 8 (ct 7)), (wI g pl 0 12 plf), (wO10 vs vs_part vsw), (wJ g vs_part 1 12 vsp)] s.heap := hP
  refine W.eq (g2 := entryFrame m ([.ref co, .ref pl, .int p0, .int p1, .int p2, .ref vs] : List Value).toArray 8) (by rw [ha]) ?_
  have hl := lv_entry ([.ref co, .ref pl, .int p0, .int p1, .int p2, .ref vs]) (n := 8) (Nat.le_of_ble_eq_true rfl)
  rw [lg_entry_eq]
  generalize (lg_sl ([.ref co, .ref pl, .int p0, .int p1, .int p2, .ref vs]) ++ List.replicate (8 - (lg_sl ([.ref co, .ref pl, .int p0, .int p1, .int p2, .ref vs])).length) Slot.unset).toArray = ls at hl ⊢
  have hl : lv_has ls 8 [(0, .ref co), (1, .ref pl), (2, .int p0), (3, .int p1), (4, .int p2), (5, .ref vs)] := hl
  refine lv_aload_n hx hb dX0_expectPay_0 rfl (lv_at hl 0 rfl) ?_
  refine lv_aload_n hx hb dX0_expectPay_1 rfl (lv_at hl 1 rfl) ?_
  refine lv_iload_n hx hb dX0_expectPay_2 rfl (lv_at hl 2 rfl) ?_
  refine lv_iload_n hx hb dX0_expectPay_3 rfl (lv_at hl 3 rfl) ?_
  refine lv_iload hx hb dX0_expectPay_4 (lv_at hl 4 rfl) ?_
  have hPc := hP.sub (ws' := [(wO0 co n eq co_place), (wO2 n n_nodes n_kind n_pay n_name n_ways n_held n_targets n_weights), (wI g n_kind 0 12 n_fkind), (wI g n_pay 0 12 n_fpay), (wI g n_ways 0 12 n_fways), (wI g n_held 0 12 n_fheld), (wI g n_targets 0 36 n_ftargets), (wI g n_weights 0 36 n_fweights), (wI g co_place 0 12 pcf), (wO1 eq eq_rows eq_right ew), (wJ g eq_right 1 8 fr), (wR g eq_rows 5 8 (fun i => if i < 8 then some (rr i) else none)), (wJ g (rr 0) 1 8 (ct 0)), (wJ g (rr 1) 1 8 (ct 1)), (wJ g (rr 2) 1 8 (ct 2)), (wJ g (rr 3) 1 8 (ct 3)), (wJ g (rr 4) 1 8 (ct 4)), (wJ g (rr 5) 1 8 (ct 5)), (wJ g (rr 6) 1 8 (ct 6)), (wJ g (rr 7) 1 8 (ct 7)), (wI g pl 0 12 plf)]) [0, 1, 2, 3, 4, 5, 6, 7, 8, 9, 10, 11, 12, 13, 14, 15, 16, 17, 18, 19, 20] rfl
  have hDc := hD.sub (ws' := [(wO0 co n eq co_place), (wO2 n n_nodes n_kind n_pay n_name n_ways n_held n_targets n_weights), (wI g n_kind 0 12 n_fkind), (wI g n_pay 0 12 n_fpay), (wI g n_ways 0 12 n_fways), (wI g n_held 0 12 n_fheld), (wI g n_targets 0 36 n_ftargets), (wI g n_weights 0 36 n_fweights), (wI g co_place 0 12 pcf), (wO1 eq eq_rows eq_right ew), (wJ g eq_right 1 8 fr), (wR g eq_rows 5 8 (fun i => if i < 8 then some (rr i) else none)), (wJ g (rr 0) 1 8 (ct 0)), (wJ g (rr 1) 1 8 (ct 1)), (wJ g (rr 2) 1 8 (ct 2)), (wJ g (rr 3) 1 8 (ct 3)), (wJ g (rr 4) 1 8 (ct 4)), (wJ g (rr 5) 1 8 (ct 5)), (wJ g (rr 6) 1 8 (ct 6)), (wJ g (rr 7) 1 8 (ct 7)), (wI g pl 0 12 plf)]) [0, 1, 2, 3, 4, 5, 6, 7, 8, 9, 10, 11, 12, 13, 14, 15, 16, 17, 18, 19, 20] (by decide) rfl
  have hFc := va_free (wc := [(wO0 co n eq co_place), (wO2 n n_nodes n_kind n_pay n_name n_ways n_held n_targets n_weights), (wI g n_kind 0 12 n_fkind), (wI g n_pay 0 12 n_fpay), (wI g n_ways 0 12 n_fways), (wI g n_held 0 12 n_fheld), (wI g n_targets 0 36 n_ftargets), (wI g n_weights 0 36 n_fweights), (wI g co_place 0 12 pcf), (wO1 eq eq_rows eq_right ew), (wJ g eq_right 1 8 fr), (wR g eq_rows 5 8 (fun i => if i < 8 then some (rr i) else none)), (wJ g (rr 0) 1 8 (ct 0)), (wJ g (rr 1) 1 8 (ct 1)), (wJ g (rr 2) 1 8 (ct 2)), (wJ g (rr 3) 1 8 (ct 3)), (wJ g (rr 4) 1 8 (ct 4)), (wJ g (rr 5) 1 8 (ct 5)), (wJ g (rr 6) 1 8 (ct 6)), (wJ g (rr 7) 1 8 (ct 7)), (wI g pl 0 12 plf)]) hD hS hA [0, 1, 2, 3, 4, 5, 6, 7, 8, 9, 10, 11, 12, 13, 14, 15, 16, 17, 18, 19, 20] rfl
  refine va_calli (va_runV (As := [.ref pl, .int p0, .int p1, .int p2]) (rest := []) ⟨hx, hb, hml, hown, hts⟩ (c_X0_lay l D g s.heap.size co pl p0 p1 p2 n eq co_place n_nodes n_kind n_pay n_name n_ways n_held n_targets n_weights n_fkind n_fpay n_fways n_fheld n_ftargets n_fweights pcf eq_rows eq_right ew fr rr ct plf (tr_w h_n_nodes (by decide) (by decide)) (tr_wa h_n_fkind (by decide) (by decide)) (tr_wa h_n_fways (by decide) (by decide)) (tr_wa h_n_fheld (by decide) (by decide)) (tr_wa h_n_ftargets (by decide) (by decide)) (tr_wa h_pcf (by decide) (by decide)) (tr_wa h_plf (by decide) (by decide))) (cwV 4 hts (tz_gV qw_516 qw_517 qw_518 qw_470 qw_519) rfl rfl rfl (by decide +kernel) ⟨Nat.le_of_ble_eq_true rfl, Nat.le_of_ble_eq_true rfl⟩) ⟨tz_blQ, va_recv hK hPc (ci := 0) (q0 := 0) rfl rfl, tz_preQ hPc hK hDc⟩ rfl rfl hl.1 rfl (lv_room (Nat.le_of_ble_eq_true rfl)) dX0_expectPay_6 ⟨Nat.le_of_ble_eq_true rfl, Nat.le_of_ble_eq_true rfl⟩) hS (fun q _ h => hFc q h) hFc (fun r_67612 u t H1 locs ht hvm hw hB hz1 hk1 hS => ?_)
  obtain ⟨opc_67613, ofr_67614, oct_67615, hf_67616, hP1, hD1⟩ := hB
  rw [ht] at hP1
  obtain ⟨hP, hD⟩ := va_join (wr := [(wO10 vs vs_part vsw), (wJ g vs_part 1 12 vsp)]) (w1 := [(wO0 co n eq co_place), (wO2 n n_nodes n_kind n_pay n_name n_ways n_held n_targets n_weights), (wI g n_kind 0 12 n_fkind), (wI g n_pay 0 12 n_fpay), (wI g n_ways 0 12 n_fways), (wI g n_held 0 12 n_fheld), (wI g n_targets 0 36 n_ftargets), (wI g n_weights 0 36 n_fweights), (wI g co_place 0 12 opc_67613), (wO1 eq eq_rows eq_right ew), (wJ g eq_right 1 8 ofr_67614), (wR g eq_rows 5 8 (fun i => if i < 8 then some (rr i) else none)), (wJ g (rr 0) 1 8 (oct_67615 0)), (wJ g (rr 1) 1 8 (oct_67615 1)), (wJ g (rr 2) 1 8 (oct_67615 2)), (wJ g (rr 3) 1 8 (oct_67615 3)), (wJ g (rr 4) 1 8 (oct_67615 4)), (wJ g (rr 5) 1 8 (oct_67615 5)), (wJ g (rr 6) 1 8 (oct_67615 6)), (wJ g (rr 7) 1 8 (oct_67615 7)), (wI g pl 0 12 plf)]) hP hD [0, 1, 2, 3, 4, 5, 6, 7, 8, 9, 10, 11, 12, 13, 14, 15, 16, 17, 18, 19, 20] [21, 22] rfl rfl (by decide) (by decide) hk1 hFc hP1 hD1
  generalize H1 = H at hP hS ⊢
  have hP : va_P D vwCl [(wO10 vs vs_part vsw), (wJ g vs_part 1 12 vsp), (wO0 co n eq co_place), (wO2 n n_nodes n_kind n_pay n_name n_ways n_held n_targets n_weights), (wI g n_kind 0 12 n_fkind), (wI g n_pay 0 12 n_fpay), (wI g n_ways 0 12 n_fways), (wI g n_held 0 12 n_fheld), (wI g n_targets 0 36 n_ftargets), (wI g n_weights 0 36 n_fweights), (wI g co_place 0 12 opc_67613), (wO1 eq eq_rows eq_right ew), (wJ g eq_right 1 8 ofr_67614), (wR g eq_rows 5 8 (fun i => if i < 8 then some (rr i) else none)), (wJ g (rr 0) 1 8 (oct_67615 0)), (wJ g (rr 1) 1 8 (oct_67615 1)), (wJ g (rr 2) 1 8 (oct_67615 2)), (wJ g (rr 3) 1 8 (oct_67615 3)), (wJ g (rr 4) 1 8 (oct_67615 4)), (wJ g (rr 5) 1 8 (oct_67615 5)), (wJ g (rr 6) 1 8 (oct_67615 6)), (wJ g (rr 7) 1 8 (oct_67615 7)), (wI g pl 0 12 plf)] H := hP
  have hD : va_D A [(wO10 vs vs_part vsw), (wJ g vs_part 1 12 vsp), (wO0 co n eq co_place), (wO2 n n_nodes n_kind n_pay n_name n_ways n_held n_targets n_weights), (wI g n_kind 0 12 n_fkind), (wI g n_pay 0 12 n_fpay), (wI g n_ways 0 12 n_fways), (wI g n_held 0 12 n_fheld), (wI g n_targets 0 36 n_ftargets), (wI g n_weights 0 36 n_fweights), (wI g co_place 0 12 opc_67613), (wO1 eq eq_rows eq_right ew), (wJ g eq_right 1 8 ofr_67614), (wR g eq_rows 5 8 (fun i => if i < 8 then some (rr i) else none)), (wJ g (rr 0) 1 8 (oct_67615 0)), (wJ g (rr 1) 1 8 (oct_67615 1)), (wJ g (rr 2) 1 8 (oct_67615 2)), (wJ g (rr 3) 1 8 (oct_67615 3)), (wJ g (rr 4) 1 8 (oct_67615 4)), (wJ g (rr 5) 1 8 (oct_67615 5)), (wJ g (rr 6) 1 8 (oct_67615 6)), (wJ g (rr 7) 1 8 (oct_67615 7)), (wI g pl 0 12 plf)] := hD
  have hw_67617 : 0 ≤ (r_67612 : Int32).toInt ∧ (r_67612 : Int32).toInt ≤ 8 := hw
  refine lv_istore (lv' := [(6, .int r_67612), (0, .ref co), (1, .ref pl), (2, .int p0), (3, .int p1), (4, .int p2), (5, .ref vs)]) hx hb dX0_expectPay_9 hl (by decide) rfl (fun ls hl => ?_)
  refine lv_iconst (v := 0) hx hb dX0_expectPay_11 (by decide) ?_
  refine lv_istore (lv' := [(7, .int 0), (6, .int r_67612), (0, .ref co), (1, .ref pl), (2, .int p0), (3, .int p1), (4, .int p2), (5, .ref vs)]) hx hb dX0_expectPay_12 hl (by decide) rfl (fun ls hl => ?_)
  have lp_68388 : ∀ (n_68388 : Nat) (x_68386 : Int32) (f_68387 : Nat → Int64) (H : Heap) (locs : List Loc) (ls : Array Slot), (0 ≤ (x_68386 : Int32).toInt ∧ (x_68386 : Int32).toInt ≤ 12) → (12 - x_68386.toInt < (n_68388 : Int)) → va_P D vwCl [(wO10 vs vs_part vsw), (wJ g vs_part 1 12 vsp), (wO0 co n eq co_place), (wO2 n n_nodes n_kind n_pay n_name n_ways n_held n_targets n_weights), (wI g n_kind 0 12 n_fkind), (wI g n_pay 0 12 n_fpay), (wI g n_ways 0 12 n_fways), (wI g n_held 0 12 n_fheld), (wI g n_targets 0 36 n_ftargets), (wI g n_weights 0 36 n_fweights), (wI g co_place 0 12 opc_67613), (wO1 eq eq_rows eq_right ew), (wJ g eq_right 1 8 f_68387), (wR g eq_rows 5 8 (fun i => if i < 8 then some (rr i) else none)), (wJ g (rr 0) 1 8 (oct_67615 0)), (wJ g (rr 1) 1 8 (oct_67615 1)), (wJ g (rr 2) 1 8 (oct_67615 2)), (wJ g (rr 3) 1 8 (oct_67615 3)), (wJ g (rr 4) 1 8 (oct_67615 4)), (wJ g (rr 5) 1 8 (oct_67615 5)), (wJ g (rr 6) 1 8 (oct_67615 6)), (wJ g (rr 7) 1 8 (oct_67615 7)), (wI g pl 0 12 plf)] H → va_D A [(wO10 vs vs_part vsw), (wJ g vs_part 1 12 vsp), (wO0 co n eq co_place), (wO2 n n_nodes n_kind n_pay n_name n_ways n_held n_targets n_weights), (wI g n_kind 0 12 n_fkind), (wI g n_pay 0 12 n_fpay), (wI g n_ways 0 12 n_fways), (wI g n_held 0 12 n_fheld), (wI g n_targets 0 36 n_ftargets), (wI g n_weights 0 36 n_fweights), (wI g co_place 0 12 opc_67613), (wO1 eq eq_rows eq_right ew), (wJ g eq_right 1 8 f_68387), (wR g eq_rows 5 8 (fun i => if i < 8 then some (rr i) else none)), (wJ g (rr 0) 1 8 (oct_67615 0)), (wJ g (rr 1) 1 8 (oct_67615 1)), (wJ g (rr 2) 1 8 (oct_67615 2)), (wJ g (rr 3) 1 8 (oct_67615 3)), (wJ g (rr 4) 1 8 (oct_67615 4)), (wJ g (rr 5) 1 8 (oct_67615 5)), (wJ g (rr 6) 1 8 (oct_67615 6)), (wJ g (rr 7) 1 8 (oct_67615 7)), (wI g pl 0 12 plf)] → va_S A s.heap H locs → lv_has ls 8 [(7, .int x_68386), (6, .int r_67612), (0, .ref co), (1, .ref pl), (2, .int p0), (3, .int p1), (4, .int p2), (5, .ref vs)] → W p l e (headSpec (.code yX0_expectPay cX0_expectPay 8 none :: wsL_law) ({ frames := 3, cells := 0, slots := 0, locals := 78 })).room s m args below meth c H locs 0 0 (MQ below (va_Qv (fun (_ : Unit) => True) (fun _ t => ∃ opc : Nat → Int32, ∃ oew : Int64, ∃ ofr : Nat → Int64, ∃ ovw : Int64, ∃ ovp : Nat → Int64, ∃ oct : Nat → Nat → Int64, (∀ j : Nat, (-1) ≤ (opc j).toInt ∧ (opc j).toInt ≤ 7) ∧ va_P D vwCl [(wO0 co n eq co_place), (wO2 n n_nodes n_kind n_pay n_name n_ways n_held n_targets n_weights), (wI g n_kind 0 12 n_fkind), (wI g n_pay 0 12 n_fpay), (wI g n_ways 0 12 n_fways), (wI g n_held 0 12 n_fheld), (wI g n_targets 0 36 n_ftargets), (wI g n_weights 0 36 n_fweights), (wI g co_place 0 12 opc), (wO1 eq eq_rows eq_right oew), (wJ g eq_right 1 8 ofr), (wR g eq_rows 5 8 (fun i => if i < 8 then some (rr i) else none)), (wJ g (rr 0) 1 8 (oct 0)), (wJ g (rr 1) 1 8 (oct 1)), (wJ g (rr 2) 1 8 (oct 2)), (wJ g (rr 3) 1 8 (oct 3)), (wJ g (rr 4) 1 8 (oct 4)), (wJ g (rr 5) 1 8 (oct 5)), (wJ g (rr 6) 1 8 (oct 6)), (wJ g (rr 7) 1 8 (oct 7)), (wI g pl 0 12 plf), (wO10 vs vs_part ovw), (wJ g vs_part 1 12 ovp)] t.heap ∧ va_D A [(wO0 co n eq co_place), (wO2 n n_nodes n_kind n_pay n_name n_ways n_held n_targets n_weights), (wI g n_kind 0 12 n_fkind), (wI g n_pay 0 12 n_fpay), (wI g n_ways 0 12 n_fways), (wI g n_held 0 12 n_fheld), (wI g n_targets 0 36 n_ftargets), (wI g n_weights 0 36 n_fweights), (wI g co_place 0 12 opc), (wO1 eq eq_rows eq_right oew), (wJ g eq_right 1 8 ofr), (wR g eq_rows 5 8 (fun i => if i < 8 then some (rr i) else none)), (wJ g (rr 0) 1 8 (oct 0)), (wJ g (rr 1) 1 8 (oct 1)), (wJ g (rr 2) 1 8 (oct 2)), (wJ g (rr 3) 1 8 (oct 3)), (wJ g (rr 4) 1 8 (oct 4)), (wJ g (rr 5) 1 8 (oct 5)), (wJ g (rr 6) 1 8 (oct 6)), (wJ g (rr 7) 1 8 (oct 7)), (wI g pl 0 12 plf), (wO10 vs vs_part ovw), (wJ g vs_part 1 12 ovp)]) A) args s 0 0 A) (F0 m 14 ls []) := by
    intro n_68388
    induction n_68388 with
    | zero =>
      intro x_68386 f_68387 H locs ls h_x_68386 hm_68388 hP hD hS hl
      exfalso; omega
    | succ n_68388 ih_68388 =>
      intro x_68386 f_68387 H locs ls h_x_68386 hm_68388 hP hD hS hl
      refine lv_iload hx hb dX0_expectPay_14 (lv_at hl 0 rfl) ?_
      refine lv_aload_n hx hb dX0_expectPay_16 rfl (lv_at hl 2 rfl) ?_
      refine va_get (D := D) (ci := 0) (v := .ref n) (C := RX0) (T := TX0) (N := 3) hx hb hts inlX0 hown hK hP 2 rfl rfl 0 (by decide) (hts (Cond.fieldLink RX0 22 "ChanceRings$Course" "net" "LChanceRings$Net;") qw_463) (fun _ h9 => h9) rfl dX0_expectPay_17 ?_
      refine va_get (D := D) (ci := 2) (v := .int n_nodes) (C := RX2) (T := TX2) (N := 8) hx hb hts inlX2 hown hK hP 3 rfl rfl 0 (by decide) (hts (Cond.fieldLink RX0 49 "ChanceRings$Net" "nodes" "I") qw_473) (fun _ h9 => h9) rfl dX0_expectPay_20 ?_
      refine lv_icmp_ge (tgt := 68) hx hb dX0_expectPay_23 (by decide) (fun c_68389 => ?_) (fun c_68389 => ?_)
      · skip
        refine lv_aload_n hx hb dX0_expectPay_68 rfl (lv_at hl 2 rfl) ?_
        refine lv_iload hx hb dX0_expectPay_69 (lv_at hl 1 rfl) ?_
        refine lv_aload hx hb dX0_expectPay_71 (lv_at hl 7 rfl) ?_
        have hPc := hP.sub (ws' := [(wO0 co n eq co_place), (wO2 n n_nodes n_kind n_pay n_name n_ways n_held n_targets n_weights), (wI g n_kind 0 12 n_fkind), (wI g n_pay 0 12 n_fpay), (wI g n_ways 0 12 n_fways), (wI g n_held 0 12 n_fheld), (wI g n_targets 0 36 n_ftargets), (wI g n_weights 0 36 n_fweights), (wI g co_place 0 12 opc_67613), (wO1 eq eq_rows eq_right ew), (wJ g eq_right 1 8 f_68387), (wR g eq_rows 5 8 (fun i => if i < 8 then some (rr i) else none)), (wJ g (rr 0) 1 8 (oct_67615 0)), (wJ g (rr 1) 1 8 (oct_67615 1)), (wJ g (rr 2) 1 8 (oct_67615 2)), (wJ g (rr 3) 1 8 (oct_67615 3)), (wJ g (rr 4) 1 8 (oct_67615 4)), (wJ g (rr 5) 1 8 (oct_67615 5)), (wJ g (rr 6) 1 8 (oct_67615 6)), (wJ g (rr 7) 1 8 (oct_67615 7)), (wO10 vs vs_part vsw), (wJ g vs_part 1 12 vsp)]) [2, 3, 4, 5, 6, 7, 8, 9, 10, 11, 12, 13, 14, 15, 16, 17, 18, 19, 20, 21, 0, 1] rfl
        have hDc := hD.sub (ws' := [(wO0 co n eq co_place), (wO2 n n_nodes n_kind n_pay n_name n_ways n_held n_targets n_weights), (wI g n_kind 0 12 n_fkind), (wI g n_pay 0 12 n_fpay), (wI g n_ways 0 12 n_fways), (wI g n_held 0 12 n_fheld), (wI g n_targets 0 36 n_ftargets), (wI g n_weights 0 36 n_fweights), (wI g co_place 0 12 opc_67613), (wO1 eq eq_rows eq_right ew), (wJ g eq_right 1 8 f_68387), (wR g eq_rows 5 8 (fun i => if i < 8 then some (rr i) else none)), (wJ g (rr 0) 1 8 (oct_67615 0)), (wJ g (rr 1) 1 8 (oct_67615 1)), (wJ g (rr 2) 1 8 (oct_67615 2)), (wJ g (rr 3) 1 8 (oct_67615 3)), (wJ g (rr 4) 1 8 (oct_67615 4)), (wJ g (rr 5) 1 8 (oct_67615 5)), (wJ g (rr 6) 1 8 (oct_67615 6)), (wJ g (rr 7) 1 8 (oct_67615 7)), (wO10 vs vs_part vsw), (wJ g vs_part 1 12 vsp)]) [2, 3, 4, 5, 6, 7, 8, 9, 10, 11, 12, 13, 14, 15, 16, 17, 18, 19, 20, 21, 0, 1] (by decide) rfl
        have hFc := va_free (wc := [(wO0 co n eq co_place), (wO2 n n_nodes n_kind n_pay n_name n_ways n_held n_targets n_weights), (wI g n_kind 0 12 n_fkind), (wI g n_pay 0 12 n_fpay), (wI g n_ways 0 12 n_fways), (wI g n_held 0 12 n_fheld), (wI g n_targets 0 36 n_ftargets), (wI g n_weights 0 36 n_fweights), (wI g co_place 0 12 opc_67613), (wO1 eq eq_rows eq_right ew), (wJ g eq_right 1 8 f_68387), (wR g eq_rows 5 8 (fun i => if i < 8 then some (rr i) else none)), (wJ g (rr 0) 1 8 (oct_67615 0)), (wJ g (rr 1) 1 8 (oct_67615 1)), (wJ g (rr 2) 1 8 (oct_67615 2)), (wJ g (rr 3) 1 8 (oct_67615 3)), (wJ g (rr 4) 1 8 (oct_67615 4)), (wJ g (rr 5) 1 8 (oct_67615 5)), (wJ g (rr 6) 1 8 (oct_67615 6)), (wJ g (rr 7) 1 8 (oct_67615 7)), (wO10 vs vs_part vsw), (wJ g vs_part 1 12 vsp)]) hD hS hA [2, 3, 4, 5, 6, 7, 8, 9, 10, 11, 12, 13, 14, 15, 16, 17, 18, 19, 20, 21, 0, 1] rfl
        refine va_callv (va_runV (As := [.int r_67612, .ref vs]) (rest := []) ⟨hx, hb, hml, hown, hts⟩ (c_X0_finish l D g H.size co r_67612 vs n eq co_place n_nodes n_kind n_pay n_name n_ways n_held n_targets n_weights n_fkind n_fpay n_fways n_fheld n_ftargets n_fweights opc_67613 eq_rows eq_right ew f_68387 rr oct_67615 vs_part vsw vsp (tr_w hw_67617 (by decide) (by decide)) (tr_w h_n_nodes (by decide) (by decide)) (tr_wa h_n_fkind (by decide) (by decide)) (tr_wa h_n_fways (by decide) (by decide)) (tr_wa h_n_fheld (by decide) (by decide)) (tr_wa h_n_ftargets (by decide) (by decide)) (tr_wa hf_67616 (by decide) (by decide))) (cwV 2 hts (tz_gV qw_520 qw_521 qw_522 qw_470 qw_523) rfl rfl rfl (by decide +kernel) ⟨Nat.le_of_ble_eq_true rfl, Nat.le_of_ble_eq_true rfl⟩) ⟨tz_blQ, va_recv hK hPc (ci := 0) (q0 := 0) rfl rfl, tz_preQ hPc hK hDc⟩ rfl rfl hl.1 rfl (lv_room (Nat.le_of_ble_eq_true rfl)) dX0_expectPay_73 ⟨Nat.le_of_ble_eq_true rfl, Nat.le_of_ble_eq_true rfl⟩) hS (fun q _ h => hFc q h) hFc (fun u t H1 locs ht hvm hw hB hz1 hk1 hS => ?_)
        obtain ⟨oew_68393, ofr_68394, ovw_68395, ovp_68396, oct_68397, hP1, hD1⟩ := hB
        rw [ht] at hP1
        obtain ⟨hP, hD⟩ := va_join (wr := [(wI g pl 0 12 plf)]) (w1 := [(wO0 co n eq co_place), (wO2 n n_nodes n_kind n_pay n_name n_ways n_held n_targets n_weights), (wI g n_kind 0 12 n_fkind), (wI g n_pay 0 12 n_fpay), (wI g n_ways 0 12 n_fways), (wI g n_held 0 12 n_fheld), (wI g n_targets 0 36 n_ftargets), (wI g n_weights 0 36 n_fweights), (wI g co_place 0 12 opc_67613), (wO1 eq eq_rows eq_right oew_68393), (wJ g eq_right 1 8 ofr_68394), (wR g eq_rows 5 8 (fun i => if i < 8 then some (rr i) else none)), (wJ g (rr 0) 1 8 (oct_68397 0)), (wJ g (rr 1) 1 8 (oct_68397 1)), (wJ g (rr 2) 1 8 (oct_68397 2)), (wJ g (rr 3) 1 8 (oct_68397 3)), (wJ g (rr 4) 1 8 (oct_68397 4)), (wJ g (rr 5) 1 8 (oct_68397 5)), (wJ g (rr 6) 1 8 (oct_68397 6)), (wJ g (rr 7) 1 8 (oct_68397 7)), (wO10 vs vs_part ovw_68395), (wJ g vs_part 1 12 ovp_68396)]) hP hD [2, 3, 4, 5, 6, 7, 8, 9, 10, 11, 12, 13, 14, 15, 16, 17, 18, 19, 20, 21, 0, 1] [22] rfl rfl (by decide) (by decide) hk1 hFc hP1 hD1
        generalize H1 = H at hP hS ⊢
        have hP : va_P D vwCl [(wI g pl 0 12 plf), (wO0 co n eq co_place), (wO2 n n_nodes n_kind n_pay n_name n_ways n_held n_targets n_weights), (wI g n_kind 0 12 n_fkind), (wI g n_pay 0 12 n_fpay), (wI g n_ways 0 12 n_fways), (wI g n_held 0 12 n_fheld), (wI g n_targets 0 36 n_ftargets), (wI g n_weights 0 36 n_fweights), (wI g co_place 0 12 opc_67613), (wO1 eq eq_rows eq_right oew_68393), (wJ g eq_right 1 8 ofr_68394), (wR g eq_rows 5 8 (fun i => if i < 8 then some (rr i) else none)), (wJ g (rr 0) 1 8 (oct_68397 0)), (wJ g (rr 1) 1 8 (oct_68397 1)), (wJ g (rr 2) 1 8 (oct_68397 2)), (wJ g (rr 3) 1 8 (oct_68397 3)), (wJ g (rr 4) 1 8 (oct_68397 4)), (wJ g (rr 5) 1 8 (oct_68397 5)), (wJ g (rr 6) 1 8 (oct_68397 6)), (wJ g (rr 7) 1 8 (oct_68397 7)), (wO10 vs vs_part ovw_68395), (wJ g vs_part 1 12 ovp_68396)] H := hP
        have hD : va_D A [(wI g pl 0 12 plf), (wO0 co n eq co_place), (wO2 n n_nodes n_kind n_pay n_name n_ways n_held n_targets n_weights), (wI g n_kind 0 12 n_fkind), (wI g n_pay 0 12 n_fpay), (wI g n_ways 0 12 n_fways), (wI g n_held 0 12 n_fheld), (wI g n_targets 0 36 n_ftargets), (wI g n_weights 0 36 n_fweights), (wI g co_place 0 12 opc_67613), (wO1 eq eq_rows eq_right oew_68393), (wJ g eq_right 1 8 ofr_68394), (wR g eq_rows 5 8 (fun i => if i < 8 then some (rr i) else none)), (wJ g (rr 0) 1 8 (oct_68397 0)), (wJ g (rr 1) 1 8 (oct_68397 1)), (wJ g (rr 2) 1 8 (oct_68397 2)), (wJ g (rr 3) 1 8 (oct_68397 3)), (wJ g (rr 4) 1 8 (oct_68397 4)), (wJ g (rr 5) 1 8 (oct_68397 5)), (wJ g (rr 6) 1 8 (oct_68397 6)), (wJ g (rr 7) 1 8 (oct_68397 7)), (wO10 vs vs_part ovw_68395), (wJ g vs_part 1 12 ovp_68396)] := hD
        refine lv_iconst (v := 0) hx hb dX0_expectPay_76 (by decide) ?_
        refine lv_istore (lv' := [(7, .int 0), (6, .int r_67612), (0, .ref co), (1, .ref pl), (2, .int p0), (3, .int p1), (4, .int p2), (5, .ref vs)]) hx hb dX0_expectPay_77 hl (by decide) rfl (fun ls hl => ?_)
        have lp_68516 : ∀ (n_68516 : Nat) (x_68514 : Int32) (f_68515 : Nat → Int64) (H : Heap) (locs : List Loc) (ls : Array Slot), (0 ≤ (x_68514 : Int32).toInt ∧ (x_68514 : Int32).toInt ≤ 12) → (12 - x_68514.toInt < (n_68516 : Int)) → va_P D vwCl [(wI g pl 0 12 plf), (wO0 co n eq co_place), (wO2 n n_nodes n_kind n_pay n_name n_ways n_held n_targets n_weights), (wI g n_kind 0 12 n_fkind), (wI g n_pay 0 12 n_fpay), (wI g n_ways 0 12 n_fways), (wI g n_held 0 12 n_fheld), (wI g n_targets 0 36 n_ftargets), (wI g n_weights 0 36 n_fweights), (wI g co_place 0 12 opc_67613), (wO1 eq eq_rows eq_right oew_68393), (wJ g eq_right 1 8 ofr_68394), (wR g eq_rows 5 8 (fun i => if i < 8 then some (rr i) else none)), (wJ g (rr 0) 1 8 (oct_68397 0)), (wJ g (rr 1) 1 8 (oct_68397 1)), (wJ g (rr 2) 1 8 (oct_68397 2)), (wJ g (rr 3) 1 8 (oct_68397 3)), (wJ g (rr 4) 1 8 (oct_68397 4)), (wJ g (rr 5) 1 8 (oct_68397 5)), (wJ g (rr 6) 1 8 (oct_68397 6)), (wJ g (rr 7) 1 8 (oct_68397 7)), (wO10 vs vs_part ovw_68395), (wJ g vs_part 1 12 f_68515)] H → va_D A [(wI g pl 0 12 plf), (wO0 co n eq co_place), (wO2 n n_nodes n_kind n_pay n_name n_ways n_held n_targets n_weights), (wI g n_kind 0 12 n_fkind), (wI g n_pay 0 12 n_fpay), (wI g n_ways 0 12 n_fways), (wI g n_held 0 12 n_fheld), (wI g n_targets 0 36 n_ftargets), (wI g n_weights 0 36 n_fweights), (wI g co_place 0 12 opc_67613), (wO1 eq eq_rows eq_right oew_68393), (wJ g eq_right 1 8 ofr_68394), (wR g eq_rows 5 8 (fun i => if i < 8 then some (rr i) else none)), (wJ g (rr 0) 1 8 (oct_68397 0)), (wJ g (rr 1) 1 8 (oct_68397 1)), (wJ g (rr 2) 1 8 (oct_68397 2)), (wJ g (rr 3) 1 8 (oct_68397 3)), (wJ g (rr 4) 1 8 (oct_68397 4)), (wJ g (rr 5) 1 8 (oct_68397 5)), (wJ g (rr 6) 1 8 (oct_68397 6)), (wJ g (rr 7) 1 8 (oct_68397 7)), (wO10 vs vs_part ovw_68395), (wJ g vs_part 1 12 f_68515)] → va_S A s.heap H locs → lv_has ls 8 [(7, .int x_68514), (6, .int r_67612), (0, .ref co), (1, .ref pl), (2, .int p0), (3, .int p1), (4, .int p2), (5, .ref vs)] → W p l e (headSpec (.code yX0_expectPay cX0_expectPay 8 none :: wsL_law) ({ frames := 3, cells := 0, slots := 0, locals := 78 })).room s m args below meth c H locs 0 0 (MQ below (va_Qv (fun (_ : Unit) => True) (fun _ t => ∃ opc : Nat → Int32, ∃ oew : Int64, ∃ ofr : Nat → Int64, ∃ ovw : Int64, ∃ ovp : Nat → Int64, ∃ oct : Nat → Nat → Int64, (∀ j : Nat, (-1) ≤ (opc j).toInt ∧ (opc j).toInt ≤ 7) ∧ va_P D vwCl [(wO0 co n eq co_place), (wO2 n n_nodes n_kind n_pay n_name n_ways n_held n_targets n_weights), (wI g n_kind 0 12 n_fkind), (wI g n_pay 0 12 n_fpay), (wI g n_ways 0 12 n_fways), (wI g n_held 0 12 n_fheld), (wI g n_targets 0 36 n_ftargets), (wI g n_weights 0 36 n_fweights), (wI g co_place 0 12 opc), (wO1 eq eq_rows eq_right oew), (wJ g eq_right 1 8 ofr), (wR g eq_rows 5 8 (fun i => if i < 8 then some (rr i) else none)), (wJ g (rr 0) 1 8 (oct 0)), (wJ g (rr 1) 1 8 (oct 1)), (wJ g (rr 2) 1 8 (oct 2)), (wJ g (rr 3) 1 8 (oct 3)), (wJ g (rr 4) 1 8 (oct 4)), (wJ g (rr 5) 1 8 (oct 5)), (wJ g (rr 6) 1 8 (oct 6)), (wJ g (rr 7) 1 8 (oct 7)), (wI g pl 0 12 plf), (wO10 vs vs_part ovw), (wJ g vs_part 1 12 ovp)] t.heap ∧ va_D A [(wO0 co n eq co_place), (wO2 n n_nodes n_kind n_pay n_name n_ways n_held n_targets n_weights), (wI g n_kind 0 12 n_fkind), (wI g n_pay 0 12 n_fpay), (wI g n_ways 0 12 n_fways), (wI g n_held 0 12 n_fheld), (wI g n_targets 0 36 n_ftargets), (wI g n_weights 0 36 n_fweights), (wI g co_place 0 12 opc), (wO1 eq eq_rows eq_right oew), (wJ g eq_right 1 8 ofr), (wR g eq_rows 5 8 (fun i => if i < 8 then some (rr i) else none)), (wJ g (rr 0) 1 8 (oct 0)), (wJ g (rr 1) 1 8 (oct 1)), (wJ g (rr 2) 1 8 (oct 2)), (wJ g (rr 3) 1 8 (oct 3)), (wJ g (rr 4) 1 8 (oct 4)), (wJ g (rr 5) 1 8 (oct 5)), (wJ g (rr 6) 1 8 (oct 6)), (wJ g (rr 7) 1 8 (oct 7)), (wI g pl 0 12 plf), (wO10 vs vs_part ovw), (wJ g vs_part 1 12 ovp)]) A) args s 0 0 A) (F0 m 79 ls []) := by
          intro n_68516
          induction n_68516 with
          | zero =>
            intro x_68514 f_68515 H locs ls h_x_68514 hm_68516 hP hD hS hl
            exfalso; omega
          | succ n_68516 ih_68516 =>
            intro x_68514 f_68515 H locs ls h_x_68514 hm_68516 hP hD hS hl
            refine lv_iload hx hb dX0_expectPay_79 (lv_at hl 0 rfl) ?_
            refine lv_aload_n hx hb dX0_expectPay_81 rfl (lv_at hl 2 rfl) ?_
            refine va_get (D := D) (ci := 0) (v := .ref n) (C := RX0) (T := TX0) (N := 3) hx hb hts inlX0 hown hK hP 1 rfl rfl 0 (by decide) (hts (Cond.fieldLink RX0 22 "ChanceRings$Course" "net" "LChanceRings$Net;") qw_463) (fun _ h9 => h9) rfl dX0_expectPay_82 ?_
            refine va_get (D := D) (ci := 2) (v := .int n_nodes) (C := RX2) (T := TX2) (N := 8) hx hb hts inlX2 hown hK hP 2 rfl rfl 0 (by decide) (hts (Cond.fieldLink RX0 49 "ChanceRings$Net" "nodes" "I") qw_473) (fun _ h9 => h9) rfl dX0_expectPay_85 ?_
            refine lv_icmp_ge (tgt := 135) hx hb dX0_expectPay_88 (by decide) (fun c_68517 => ?_) (fun c_68517 => ?_)
            · skip
              have hP9 := hP.sub (ws' := [(wO0 co n eq co_place), (wO2 n n_nodes n_kind n_pay n_name n_ways n_held n_targets n_weights), (wI g n_kind 0 12 n_fkind), (wI g n_pay 0 12 n_fpay), (wI g n_ways 0 12 n_fways), (wI g n_held 0 12 n_fheld), (wI g n_targets 0 36 n_ftargets), (wI g n_weights 0 36 n_fweights), (wI g co_place 0 12 opc_67613), (wO1 eq eq_rows eq_right oew_68393), (wJ g eq_right 1 8 ofr_68394), (wR g eq_rows 5 8 (fun i => if i < 8 then some (rr i) else none)), (wJ g (rr 0) 1 8 (oct_68397 0)), (wJ g (rr 1) 1 8 (oct_68397 1)), (wJ g (rr 2) 1 8 (oct_68397 2)), (wJ g (rr 3) 1 8 (oct_68397 3)), (wJ g (rr 4) 1 8 (oct_68397 4)), (wJ g (rr 5) 1 8 (oct_68397 5)), (wJ g (rr 6) 1 8 (oct_68397 6)), (wJ g (rr 7) 1 8 (oct_68397 7)), (wI g pl 0 12 plf), (wO10 vs vs_part ovw_68395), (wJ g vs_part 1 12 f_68515)]) [1, 2, 3, 4, 5, 6, 7, 8, 9, 10, 11, 12, 13, 14, 15, 16, 17, 18, 19, 20, 0, 21, 22] rfl
              have hD9 := hD.sub (ws' := [(wO0 co n eq co_place), (wO2 n n_nodes n_kind n_pay n_name n_ways n_held n_targets n_weights), (wI g n_kind 0 12 n_fkind), (wI g n_pay 0 12 n_fpay), (wI g n_ways 0 12 n_fways), (wI g n_held 0 12 n_fheld), (wI g n_targets 0 36 n_ftargets), (wI g n_weights 0 36 n_fweights), (wI g co_place 0 12 opc_67613), (wO1 eq eq_rows eq_right oew_68393), (wJ g eq_right 1 8 ofr_68394), (wR g eq_rows 5 8 (fun i => if i < 8 then some (rr i) else none)), (wJ g (rr 0) 1 8 (oct_68397 0)), (wJ g (rr 1) 1 8 (oct_68397 1)), (wJ g (rr 2) 1 8 (oct_68397 2)), (wJ g (rr 3) 1 8 (oct_68397 3)), (wJ g (rr 4) 1 8 (oct_68397 4)), (wJ g (rr 5) 1 8 (oct_68397 5)), (wJ g (rr 6) 1 8 (oct_68397 6)), (wJ g (rr 7) 1 8 (oct_68397 7)), (wI g pl 0 12 plf), (wO10 vs vs_part ovw_68395), (wJ g vs_part 1 12 f_68515)]) [1, 2, 3, 4, 5, 6, 7, 8, 9, 10, 11, 12, 13, 14, 15, 16, 17, 18, 19, 20, 0, 21, 22] (by decide) rfl
              exact W.vret hx hb hr (fun t ht hW => ⟨⟨(), rfl, trivial, opc_67613, oew_68393, ofr_68394, ovw_68395, f_68515, oct_68397, (tr_wa hf_67616 (by decide) (by decide)), by rw [ht]; exact hP9, hD9⟩, hS.F ht⟩) hS.2.2 dX0_expectPay_135
            · skip
              have c_68517_i := Int32.lt_iff_toInt_lt.mp (Int32.not_le.mp c_68517)
              have h_68518 : 0 ≤ (x_68514 : Int32).toInt ∧ (x_68514 : Int32).toInt ≤ 11 := nr_lt_l h_x_68514 h_n_nodes c_68517_i (by decide) (by decide)
              have h_68519 : 1 ≤ (n_nodes : Int32).toInt ∧ (n_nodes : Int32).toInt ≤ 12 := nr_lt_r h_x_68514 h_n_nodes c_68517_i (by decide) (by decide)
              refine lv_aload_n hx hb dX0_expectPay_91 rfl (lv_at hl 2 rfl) ?_
              refine va_get (D := D) (ci := 0) (v := .ref n) (C := RX0) (T := TX0) (N := 3) hx hb hts inlX0 hown hK hP 1 rfl rfl 0 (by decide) (hts (Cond.fieldLink RX0 22 "ChanceRings$Course" "net" "LChanceRings$Net;") qw_463) (fun _ h9 => h9) rfl dX0_expectPay_92 ?_
              refine va_get (D := D) (ci := 2) (v := .ref n_kind) (C := RX2) (T := TX2) (N := 8) hx hb hts inlX2 hown hK hP 2 rfl rfl 1 (by decide) (hts (Cond.fieldLink RX0 26 "ChanceRings$Net" "kind" "[I") qw_464) (fun _ h9 => h9) rfl dX0_expectPay_95 ?_
              refine lv_iload hx hb dX0_expectPay_98 (lv_at hl 0 rfl) ?_
              refine va_iald hx hb hK hP 3 0 rfl rfl (tr_in h_68518 (by decide) (by decide)) dX0_expectPay_100 ?_
              refine lv_topi (fun v_68520 v_68520_e => ?_)
              have h_v_68520 : 0 ≤ (v_68520 : Int32).toInt ∧ (v_68520 : Int32).toInt ≤ 3 := by rw [v_68520_e]; exact h_n_fkind _
              refine lv_if_ne (tgt := 129) hx hb dX0_expectPay_101 (by decide) (fun c_68521 => ?_) (fun c_68521 => ?_)
              · skip
                have c_68521_i : ¬ (v_68520 : Int32).toInt = (0 : Int32).toInt := (fun q => c_68521 (Int32.toInt_inj.mp q))
                have h_68522 : 1 ≤ (v_68520 : Int32).toInt ∧ (v_68520 : Int32).toInt ≤ 3 := nr_ne_l h_v_68520 (⟨by decide, by decide⟩ : 0 ≤ (0 : Int32).toInt ∧ (0 : Int32).toInt ≤ 0) c_68521_i (by decide) (by decide)
                obtain ⟨v_68524, v_68524_e⟩ : ∃ y : Int32, y = x_68514 + Int32.ofInt 1 := ⟨_, rfl⟩
                have h_v_68524 : 1 ≤ (v_68524 : Int32).toInt ∧ (v_68524 : Int32).toInt ≤ 12 := by rw [v_68524_e]; exact tr_add h_68518 (⟨by decide, by decide⟩ : 1 ≤ (Int32.ofInt 1 : Int32).toInt ∧ (Int32.ofInt 1 : Int32).toInt ≤ 1) (by decide) (by decide) (by decide) (by decide)
                have q_v_68524 : v_68524.toInt = x_68514.toInt + 1 := by rw [v_68524_e]; exact tr_addE h_68518 (⟨by decide, by decide⟩ : 1 ≤ (Int32.ofInt 1 : Int32).toInt ∧ (Int32.ofInt 1 : Int32).toInt ≤ 1) (by decide) (by decide)
                refine lv_iinc (v := v_68524) (lv' := [(7, .int v_68524), (6, .int r_67612), (0, .ref co), (1, .ref pl), (2, .int p0), (3, .int p1), (4, .int p2), (5, .ref vs)]) hx hb dX0_expectPay_129 hl (k := 0) rfl v_68524_e.symm (by decide) rfl (fun ls hl => ?_)
                refine lv_goto (tgt := 79) hx hb dX0_expectPay_132 (by decide) ?_
                exact ih_68516 v_68524 f_68515 H _ ls (tr_w h_v_68524 (by decide) (by decide)) (by (first | (clear hw_67617 h_x_68386 h_v_68520 c_68521_i h_68522; omega) | omega)) (hP.sub [0, 1, 2, 3, 4, 5, 6, 7, 8, 9, 10, 11, 12, 13, 14, 15, 16, 17, 18, 19, 20, 21, 22] rfl) (hD.sub [0, 1, 2, 3, 4, 5, 6, 7, 8, 9, 10, 11, 12, 13, 14, 15, 16, 17, 18, 19, 20, 21, 22] (by decide) rfl) hS (lv_sub hl [0, 1, 2, 3, 4, 5, 6, 7] rfl)
              · skip
                have c_68521_i : (v_68520 : Int32).toInt = (0 : Int32).toInt := congrArg Int32.toInt c_68521
                have h_68523 : 0 ≤ (v_68520 : Int32).toInt ∧ (v_68520 : Int32).toInt ≤ 0 := nr_eq_l h_v_68520 (⟨by decide, by decide⟩ : 0 ≤ (0 : Int32).toInt ∧ (0 : Int32).toInt ≤ 0) c_68521_i (by decide) (by decide)
                refine lv_aload hx hb dX0_expectPay_104 (lv_at hl 7 rfl) ?_
                refine va_get (D := D) (ci := 10) (v := .ref vs_part) (C := RX10) (T := TX10) (N := 2) hx hb hts inlX10 hown hK hP 21 rfl rfl 0 (by decide) (hts (Cond.fieldLink RX0 65 "ChanceRings$Values" "part" "[J") qw_514) (fun _ h9 => h9) rfl dX0_expectPay_106 ?_
                refine lv_iload hx hb dX0_expectPay_109 (lv_at hl 0 rfl) ?_
                refine lv_aload_n hx hb dX0_expectPay_111 rfl (lv_at hl 2 rfl) ?_
                refine va_get (D := D) (ci := 0) (v := .ref n) (C := RX0) (T := TX0) (N := 3) hx hb hts inlX0 hown hK hP 1 rfl rfl 0 (by decide) (hts (Cond.fieldLink RX0 22 "ChanceRings$Course" "net" "LChanceRings$Net;") qw_463) (fun _ h9 => h9) rfl dX0_expectPay_112 ?_
                refine va_get (D := D) (ci := 2) (v := .ref n_pay) (C := RX2) (T := TX2) (N := 8) hx hb hts inlX2 hown hK hP 2 rfl rfl 2 (by decide) (hts (Cond.fieldLink RX0 70 "ChanceRings$Net" "pay" "[I") qw_475) (fun _ h9 => h9) rfl dX0_expectPay_115 ?_
                refine lv_iload hx hb dX0_expectPay_118 (lv_at hl 0 rfl) ?_
                refine va_iald hx hb hK hP 4 0 rfl rfl (tr_in h_68518 (by decide) (by decide)) dX0_expectPay_120 ?_
                refine lv_topi (fun v_68525 v_68525_e => ?_)
                refine lv_i2l hx hb dX0_expectPay_121 rfl ?_
                refine lv_topl (fun w_68526 _ => ?_)
                refine lv_aload hx hb dX0_expectPay_122 (lv_at hl 7 rfl) ?_
                refine va_get (D := D) (ci := 10) (v := .long ovw_68395) (C := RX10) (T := TX10) (N := 2) hx hb hts inlX10 hown hK hP 21 rfl rfl 1 (by decide) (hts (Cond.fieldLink RX0 73 "ChanceRings$Values" "whole" "J") qw_513) (fun _ h9 => h9) rfl dX0_expectPay_124 ?_
                refine lv_lmul hx hb dX0_expectPay_127 ?_
                refine lv_topl (fun w_68527 _ => ?_)
                refine va_last hx hb hK hP hD hS 22 1 rfl rfl (tr_in h_68518 (by decide) (by decide)) dX0_expectPay_128 (fun H locs hP hD hS => ?_)
                obtain ⟨f_68528, hP, hD⟩ : ∃ FX : Nat → Int64, va_P D vwCl [(wI g pl 0 12 plf), (wO0 co n eq co_place), (wO2 n n_nodes n_kind n_pay n_name n_ways n_held n_targets n_weights), (wI g n_kind 0 12 n_fkind), (wI g n_pay 0 12 n_fpay), (wI g n_ways 0 12 n_fways), (wI g n_held 0 12 n_fheld), (wI g n_targets 0 36 n_ftargets), (wI g n_weights 0 36 n_fweights), (wI g co_place 0 12 opc_67613), (wO1 eq eq_rows eq_right oew_68393), (wJ g eq_right 1 8 ofr_68394), (wR g eq_rows 5 8 (fun i => if i < 8 then some (rr i) else none)), (wJ g (rr 0) 1 8 (oct_68397 0)), (wJ g (rr 1) 1 8 (oct_68397 1)), (wJ g (rr 2) 1 8 (oct_68397 2)), (wJ g (rr 3) 1 8 (oct_68397 3)), (wJ g (rr 4) 1 8 (oct_68397 4)), (wJ g (rr 5) 1 8 (oct_68397 5)), (wJ g (rr 6) 1 8 (oct_68397 6)), (wJ g (rr 7) 1 8 (oct_68397 7)), (wO10 vs vs_part ovw_68395), (wJ g vs_part 1 12 FX)] H ∧ va_D A [(wI g pl 0 12 plf), (wO0 co n eq co_place), (wO2 n n_nodes n_kind n_pay n_name n_ways n_held n_targets n_weights), (wI g n_kind 0 12 n_fkind), (wI g n_pay 0 12 n_fpay), (wI g n_ways 0 12 n_fways), (wI g n_held 0 12 n_fheld), (wI g n_targets 0 36 n_ftargets), (wI g n_weights 0 36 n_fweights), (wI g co_place 0 12 opc_67613), (wO1 eq eq_rows eq_right oew_68393), (wJ g eq_right 1 8 ofr_68394), (wR g eq_rows 5 8 (fun i => if i < 8 then some (rr i) else none)), (wJ g (rr 0) 1 8 (oct_68397 0)), (wJ g (rr 1) 1 8 (oct_68397 1)), (wJ g (rr 2) 1 8 (oct_68397 2)), (wJ g (rr 3) 1 8 (oct_68397 3)), (wJ g (rr 4) 1 8 (oct_68397 4)), (wJ g (rr 5) 1 8 (oct_68397 5)), (wJ g (rr 6) 1 8 (oct_68397 6)), (wJ g (rr 7) 1 8 (oct_68397 7)), (wO10 vs vs_part ovw_68395), (wJ g vs_part 1 12 FX)] := ⟨_, hP, hD⟩
                have hP : va_P D vwCl [(wI g pl 0 12 plf), (wO0 co n eq co_place), (wO2 n n_nodes n_kind n_pay n_name n_ways n_held n_targets n_weights), (wI g n_kind 0 12 n_fkind), (wI g n_pay 0 12 n_fpay), (wI g n_ways 0 12 n_fways), (wI g n_held 0 12 n_fheld), (wI g n_targets 0 36 n_ftargets), (wI g n_weights 0 36 n_fweights), (wI g co_place 0 12 opc_67613), (wO1 eq eq_rows eq_right oew_68393), (wJ g eq_right 1 8 ofr_68394), (wR g eq_rows 5 8 (fun i => if i < 8 then some (rr i) else none)), (wJ g (rr 0) 1 8 (oct_68397 0)), (wJ g (rr 1) 1 8 (oct_68397 1)), (wJ g (rr 2) 1 8 (oct_68397 2)), (wJ g (rr 3) 1 8 (oct_68397 3)), (wJ g (rr 4) 1 8 (oct_68397 4)), (wJ g (rr 5) 1 8 (oct_68397 5)), (wJ g (rr 6) 1 8 (oct_68397 6)), (wJ g (rr 7) 1 8 (oct_68397 7)), (wO10 vs vs_part ovw_68395), (wJ g vs_part 1 12 f_68528)] H := hP
                have hD : va_D A [(wI g pl 0 12 plf), (wO0 co n eq co_place), (wO2 n n_nodes n_kind n_pay n_name n_ways n_held n_targets n_weights), (wI g n_kind 0 12 n_fkind), (wI g n_pay 0 12 n_fpay), (wI g n_ways 0 12 n_fways), (wI g n_held 0 12 n_fheld), (wI g n_targets 0 36 n_ftargets), (wI g n_weights 0 36 n_fweights), (wI g co_place 0 12 opc_67613), (wO1 eq eq_rows eq_right oew_68393), (wJ g eq_right 1 8 ofr_68394), (wR g eq_rows 5 8 (fun i => if i < 8 then some (rr i) else none)), (wJ g (rr 0) 1 8 (oct_68397 0)), (wJ g (rr 1) 1 8 (oct_68397 1)), (wJ g (rr 2) 1 8 (oct_68397 2)), (wJ g (rr 3) 1 8 (oct_68397 3)), (wJ g (rr 4) 1 8 (oct_68397 4)), (wJ g (rr 5) 1 8 (oct_68397 5)), (wJ g (rr 6) 1 8 (oct_68397 6)), (wJ g (rr 7) 1 8 (oct_68397 7)), (wO10 vs vs_part ovw_68395), (wJ g vs_part 1 12 f_68528)] := hD
                obtain ⟨v_68529, v_68529_e⟩ : ∃ y : Int32, y = x_68514 + Int32.ofInt 1 := ⟨_, rfl⟩
                have h_v_68529 : 1 ≤ (v_68529 : Int32).toInt ∧ (v_68529 : Int32).toInt ≤ 12 := by rw [v_68529_e]; exact tr_add h_68518 (⟨by decide, by decide⟩ : 1 ≤ (Int32.ofInt 1 : Int32).toInt ∧ (Int32.ofInt 1 : Int32).toInt ≤ 1) (by decide) (by decide) (by decide) (by decide)
                have q_v_68529 : v_68529.toInt = x_68514.toInt + 1 := by rw [v_68529_e]; exact tr_addE h_68518 (⟨by decide, by decide⟩ : 1 ≤ (Int32.ofInt 1 : Int32).toInt ∧ (Int32.ofInt 1 : Int32).toInt ≤ 1) (by decide) (by decide)
                refine lv_iinc (v := v_68529) (lv' := [(7, .int v_68529), (6, .int r_67612), (0, .ref co), (1, .ref pl), (2, .int p0), (3, .int p1), (4, .int p2), (5, .ref vs)]) hx hb dX0_expectPay_129 hl (k := 0) rfl v_68529_e.symm (by decide) rfl (fun ls hl => ?_)
                refine lv_goto (tgt := 79) hx hb dX0_expectPay_132 (by decide) ?_
                exact ih_68516 v_68529 f_68528 H _ ls (tr_w h_v_68529 (by decide) (by decide)) (by (first | (clear hw_67617 h_x_68386 h_v_68520 c_68521_i h_68523; omega) | omega)) (hP.sub [0, 1, 2, 3, 4, 5, 6, 7, 8, 9, 10, 11, 12, 13, 14, 15, 16, 17, 18, 19, 20, 21, 22] rfl) (hD.sub [0, 1, 2, 3, 4, 5, 6, 7, 8, 9, 10, 11, 12, 13, 14, 15, 16, 17, 18, 19, 20, 21, 22] (by decide) rfl) hS (lv_sub hl [0, 1, 2, 3, 4, 5, 6, 7] rfl)
        exact lp_68516 13 0 ovp_68396 H _ ls (⟨by decide, by decide⟩ : 0 ≤ (0 : Int32).toInt ∧ (0 : Int32).toInt ≤ 12) (by decide) (hP.sub [0, 1, 2, 3, 4, 5, 6, 7, 8, 9, 10, 11, 12, 13, 14, 15, 16, 17, 18, 19, 20, 21, 22] rfl) (hD.sub [0, 1, 2, 3, 4, 5, 6, 7, 8, 9, 10, 11, 12, 13, 14, 15, 16, 17, 18, 19, 20, 21, 22] (by decide) rfl) hS (lv_sub hl [0, 1, 2, 3, 4, 5, 6, 7] rfl)
      · skip
        have c_68389_i := Int32.lt_iff_toInt_lt.mp (Int32.not_le.mp c_68389)
        have h_68390 : 0 ≤ (x_68386 : Int32).toInt ∧ (x_68386 : Int32).toInt ≤ 11 := nr_lt_l h_x_68386 h_n_nodes c_68389_i (by decide) (by decide)
        have h_68391 : 1 ≤ (n_nodes : Int32).toInt ∧ (n_nodes : Int32).toInt ≤ 12 := nr_lt_r h_x_68386 h_n_nodes c_68389_i (by decide) (by decide)
        refine lv_aload_n hx hb dX0_expectPay_26 rfl (lv_at hl 2 rfl) ?_
        refine va_get (D := D) (ci := 0) (v := .ref co_place) (C := RX0) (T := TX0) (N := 3) hx hb hts inlX0 hown hK hP 2 rfl rfl 2 (by decide) (hts (Cond.fieldLink RX0 18 "ChanceRings$Course" "place" "[I") qw_474) (fun _ h9 => h9) rfl dX0_expectPay_27 ?_
        refine lv_iload hx hb dX0_expectPay_30 (lv_at hl 0 rfl) ?_
        refine va_iald hx hb hK hP 10 0 rfl rfl (tr_in h_68390 (by decide) (by decide)) dX0_expectPay_32 ?_
        refine lv_topi (fun v_68530 v_68530_e => ?_)
        have h_v_68530 : (-1) ≤ (v_68530 : Int32).toInt ∧ (v_68530 : Int32).toInt ≤ 7 := by rw [v_68530_e]; exact hf_67616 _
        refine lv_iconst (v := (-1)) hx hb dX0_expectPay_33 (by decide) ?_
        refine lv_icmp_eq (tgt := 62) hx hb dX0_expectPay_34 (by decide) (fun c_68531 => ?_) (fun c_68531 => ?_)
        · skip
          have c_68531_i : (v_68530 : Int32).toInt = ((-1) : Int32).toInt := congrArg Int32.toInt c_68531
          have h_68532 : (-1) ≤ (v_68530 : Int32).toInt ∧ (v_68530 : Int32).toInt ≤ (-1) := nr_eq_l h_v_68530 (⟨by decide, by decide⟩ : (-1) ≤ ((-1) : Int32).toInt ∧ ((-1) : Int32).toInt ≤ (-1)) c_68531_i (by decide) (by decide)
          obtain ⟨v_68534, v_68534_e⟩ : ∃ y : Int32, y = x_68386 + Int32.ofInt 1 := ⟨_, rfl⟩
          have h_v_68534 : 1 ≤ (v_68534 : Int32).toInt ∧ (v_68534 : Int32).toInt ≤ 12 := by rw [v_68534_e]; exact tr_add h_68390 (⟨by decide, by decide⟩ : 1 ≤ (Int32.ofInt 1 : Int32).toInt ∧ (Int32.ofInt 1 : Int32).toInt ≤ 1) (by decide) (by decide) (by decide) (by decide)
          have q_v_68534 : v_68534.toInt = x_68386.toInt + 1 := by rw [v_68534_e]; exact tr_addE h_68390 (⟨by decide, by decide⟩ : 1 ≤ (Int32.ofInt 1 : Int32).toInt ∧ (Int32.ofInt 1 : Int32).toInt ≤ 1) (by decide) (by decide)
          refine lv_iinc (v := v_68534) (lv' := [(7, .int v_68534), (6, .int r_67612), (0, .ref co), (1, .ref pl), (2, .int p0), (3, .int p1), (4, .int p2), (5, .ref vs)]) hx hb dX0_expectPay_62 hl (k := 0) rfl v_68534_e.symm (by decide) rfl (fun ls hl => ?_)
          refine lv_goto (tgt := 14) hx hb dX0_expectPay_65 (by decide) ?_
          exact ih_68388 v_68534 f_68387 H _ ls (tr_w h_v_68534 (by decide) (by decide)) (by (first | (clear hw_67617 h_v_68530 c_68531_i h_68532; omega) | omega)) (hP.sub [0, 1, 2, 3, 4, 5, 6, 7, 8, 9, 10, 11, 12, 13, 14, 15, 16, 17, 18, 19, 20, 21, 22] rfl) (hD.sub [0, 1, 2, 3, 4, 5, 6, 7, 8, 9, 10, 11, 12, 13, 14, 15, 16, 17, 18, 19, 20, 21, 22] (by decide) rfl) hS (lv_sub hl [0, 1, 2, 3, 4, 5, 6, 7] rfl)
        · skip
          have c_68531_i : ¬ (v_68530 : Int32).toInt = ((-1) : Int32).toInt := (fun q => c_68531 (Int32.toInt_inj.mp q))
          have h_68533 : 0 ≤ (v_68530 : Int32).toInt ∧ (v_68530 : Int32).toInt ≤ 7 := nr_ne_l h_v_68530 (⟨by decide, by decide⟩ : (-1) ≤ ((-1) : Int32).toInt ∧ ((-1) : Int32).toInt ≤ (-1)) c_68531_i (by decide) (by decide)
          refine lv_aload_n hx hb dX0_expectPay_37 rfl (lv_at hl 2 rfl) ?_
          refine va_get (D := D) (ci := 0) (v := .ref eq) (C := RX0) (T := TX0) (N := 3) hx hb hts inlX0 hown hK hP 2 rfl rfl 1 (by decide) (hts (Cond.fieldLink RX0 12 "ChanceRings$Course" "equations" "LChanceRings$Equations;") qw_497) (fun _ h9 => h9) rfl dX0_expectPay_38 ?_
          refine va_get (D := D) (ci := 1) (v := .ref eq_right) (C := RX1) (T := TX1) (N := 3) hx hb hts inlX1 hown hK hP 11 rfl rfl 1 (by decide) (hts (Cond.fieldLink RX0 53 "ChanceRings$Equations" "right" "[J") qw_515) (fun _ h9 => h9) rfl dX0_expectPay_41 ?_
          refine lv_aload_n hx hb dX0_expectPay_44 rfl (lv_at hl 2 rfl) ?_
          refine va_get (D := D) (ci := 0) (v := .ref co_place) (C := RX0) (T := TX0) (N := 3) hx hb hts inlX0 hown hK hP 2 rfl rfl 2 (by decide) (hts (Cond.fieldLink RX0 18 "ChanceRings$Course" "place" "[I") qw_474) (fun _ h9 => h9) rfl dX0_expectPay_45 ?_
          refine lv_iload hx hb dX0_expectPay_48 (lv_at hl 0 rfl) ?_
          refine va_iald hx hb hK hP 10 0 rfl rfl (tr_in h_68390 (by decide) (by decide)) dX0_expectPay_50 ?_
          refine tz_i (y := v_68530) v_68530_e.symm ?_
          refine lv_iload_n hx hb dX0_expectPay_51 rfl (lv_at hl 5 rfl) ?_
          refine lv_i2l hx hb dX0_expectPay_52 rfl ?_
          refine lv_topl (fun w_68535 _ => ?_)
          refine lv_aload_n hx hb dX0_expectPay_53 rfl (lv_at hl 2 rfl) ?_
          refine lv_aload_n hx hb dX0_expectPay_54 rfl (lv_at hl 3 rfl) ?_
          refine lv_iload hx hb dX0_expectPay_55 (lv_at hl 0 rfl) ?_
          have hPc := hP.sub (ws' := [(wO0 co n eq co_place), (wO2 n n_nodes n_kind n_pay n_name n_ways n_held n_targets n_weights), (wI g n_kind 0 12 n_fkind), (wI g n_pay 0 12 n_fpay), (wI g n_ways 0 12 n_fways), (wI g n_targets 0 36 n_ftargets), (wI g n_weights 0 36 n_fweights), (wI g pl 0 12 plf)]) [2, 3, 4, 5, 6, 8, 9, 22] rfl
          refine vp_callSl (va_Run.run (va_runV (As := [.ref pl, .int x_68386]) (rest := [.long w_68535, .int v_68530, .ref eq_right]) ⟨hx, hb, hml, hown, hts⟩ (c_X0_paidNext l D g co pl x_68386 n eq co_place n_nodes n_kind n_pay n_name n_ways n_held n_targets n_weights n_fkind n_fpay n_fways n_ftargets n_fweights plf (tr_w h_68390 (by decide) (by decide)) (tr_w h_68391 (by decide) (by decide)) (tr_wa h_n_fkind (by decide) (by decide)) (tr_wa h_n_fways (by decide) (by decide)) (tr_wa h_n_ftargets (by decide) (by decide)) (tr_wa h_plf (by decide) (by decide))) (cwV 2 hts (tz_gV qw_524 qw_525 qw_526 qw_470 qw_527) rfl rfl rfl (by decide +kernel) ⟨Nat.le_of_ble_eq_true rfl, Nat.le_of_ble_eq_true rfl⟩) ⟨tz_blS, va_recv hK hPc (ci := 0) (q0 := 0) rfl rfl, tz_preS hPc hK⟩ rfl rfl hl.1 rfl (lv_room (Nat.le_of_ble_eq_true rfl)) dX0_expectPay_57 ⟨Nat.le_of_ble_eq_true rfl, Nat.le_of_ble_eq_true rfl⟩)) (fun r_68536 hw => ?_)
          refine lv_lmul hx hb dX0_expectPay_60 ?_
          refine lv_topl (fun w_68537 _ => ?_)
          refine va_last hx hb hK hP hD hS 12 1 rfl rfl (tr_in h_68533 (by decide) (by decide)) dX0_expectPay_61 (fun H locs hP hD hS => ?_)
          obtain ⟨f_68538, hP, hD⟩ : ∃ FX : Nat → Int64, va_P D vwCl [(wO10 vs vs_part vsw), (wJ g vs_part 1 12 vsp), (wO0 co n eq co_place), (wO2 n n_nodes n_kind n_pay n_name n_ways n_held n_targets n_weights), (wI g n_kind 0 12 n_fkind), (wI g n_pay 0 12 n_fpay), (wI g n_ways 0 12 n_fways), (wI g n_held 0 12 n_fheld), (wI g n_targets 0 36 n_ftargets), (wI g n_weights 0 36 n_fweights), (wI g co_place 0 12 opc_67613), (wO1 eq eq_rows eq_right ew), (wJ g eq_right 1 8 FX), (wR g eq_rows 5 8 (fun i => if i < 8 then some (rr i) else none)), (wJ g (rr 0) 1 8 (oct_67615 0)), (wJ g (rr 1) 1 8 (oct_67615 1)), (wJ g (rr 2) 1 8 (oct_67615 2)), (wJ g (rr 3) 1 8 (oct_67615 3)), (wJ g (rr 4) 1 8 (oct_67615 4)), (wJ g (rr 5) 1 8 (oct_67615 5)), (wJ g (rr 6) 1 8 (oct_67615 6)), (wJ g (rr 7) 1 8 (oct_67615 7)), (wI g pl 0 12 plf)] H ∧ va_D A [(wO10 vs vs_part vsw), (wJ g vs_part 1 12 vsp), (wO0 co n eq co_place), (wO2 n n_nodes n_kind n_pay n_name n_ways n_held n_targets n_weights), (wI g n_kind 0 12 n_fkind), (wI g n_pay 0 12 n_fpay), (wI g n_ways 0 12 n_fways), (wI g n_held 0 12 n_fheld), (wI g n_targets 0 36 n_ftargets), (wI g n_weights 0 36 n_fweights), (wI g co_place 0 12 opc_67613), (wO1 eq eq_rows eq_right ew), (wJ g eq_right 1 8 FX), (wR g eq_rows 5 8 (fun i => if i < 8 then some (rr i) else none)), (wJ g (rr 0) 1 8 (oct_67615 0)), (wJ g (rr 1) 1 8 (oct_67615 1)), (wJ g (rr 2) 1 8 (oct_67615 2)), (wJ g (rr 3) 1 8 (oct_67615 3)), (wJ g (rr 4) 1 8 (oct_67615 4)), (wJ g (rr 5) 1 8 (oct_67615 5)), (wJ g (rr 6) 1 8 (oct_67615 6)), (wJ g (rr 7) 1 8 (oct_67615 7)), (wI g pl 0 12 plf)] := ⟨_, hP, hD⟩
          have hP : va_P D vwCl [(wO10 vs vs_part vsw), (wJ g vs_part 1 12 vsp), (wO0 co n eq co_place), (wO2 n n_nodes n_kind n_pay n_name n_ways n_held n_targets n_weights), (wI g n_kind 0 12 n_fkind), (wI g n_pay 0 12 n_fpay), (wI g n_ways 0 12 n_fways), (wI g n_held 0 12 n_fheld), (wI g n_targets 0 36 n_ftargets), (wI g n_weights 0 36 n_fweights), (wI g co_place 0 12 opc_67613), (wO1 eq eq_rows eq_right ew), (wJ g eq_right 1 8 f_68538), (wR g eq_rows 5 8 (fun i => if i < 8 then some (rr i) else none)), (wJ g (rr 0) 1 8 (oct_67615 0)), (wJ g (rr 1) 1 8 (oct_67615 1)), (wJ g (rr 2) 1 8 (oct_67615 2)), (wJ g (rr 3) 1 8 (oct_67615 3)), (wJ g (rr 4) 1 8 (oct_67615 4)), (wJ g (rr 5) 1 8 (oct_67615 5)), (wJ g (rr 6) 1 8 (oct_67615 6)), (wJ g (rr 7) 1 8 (oct_67615 7)), (wI g pl 0 12 plf)] H := hP
          have hD : va_D A [(wO10 vs vs_part vsw), (wJ g vs_part 1 12 vsp), (wO0 co n eq co_place), (wO2 n n_nodes n_kind n_pay n_name n_ways n_held n_targets n_weights), (wI g n_kind 0 12 n_fkind), (wI g n_pay 0 12 n_fpay), (wI g n_ways 0 12 n_fways), (wI g n_held 0 12 n_fheld), (wI g n_targets 0 36 n_ftargets), (wI g n_weights 0 36 n_fweights), (wI g co_place 0 12 opc_67613), (wO1 eq eq_rows eq_right ew), (wJ g eq_right 1 8 f_68538), (wR g eq_rows 5 8 (fun i => if i < 8 then some (rr i) else none)), (wJ g (rr 0) 1 8 (oct_67615 0)), (wJ g (rr 1) 1 8 (oct_67615 1)), (wJ g (rr 2) 1 8 (oct_67615 2)), (wJ g (rr 3) 1 8 (oct_67615 3)), (wJ g (rr 4) 1 8 (oct_67615 4)), (wJ g (rr 5) 1 8 (oct_67615 5)), (wJ g (rr 6) 1 8 (oct_67615 6)), (wJ g (rr 7) 1 8 (oct_67615 7)), (wI g pl 0 12 plf)] := hD
          obtain ⟨v_68539, v_68539_e⟩ : ∃ y : Int32, y = x_68386 + Int32.ofInt 1 := ⟨_, rfl⟩
          have h_v_68539 : 1 ≤ (v_68539 : Int32).toInt ∧ (v_68539 : Int32).toInt ≤ 12 := by rw [v_68539_e]; exact tr_add h_68390 (⟨by decide, by decide⟩ : 1 ≤ (Int32.ofInt 1 : Int32).toInt ∧ (Int32.ofInt 1 : Int32).toInt ≤ 1) (by decide) (by decide) (by decide) (by decide)
          have q_v_68539 : v_68539.toInt = x_68386.toInt + 1 := by rw [v_68539_e]; exact tr_addE h_68390 (⟨by decide, by decide⟩ : 1 ≤ (Int32.ofInt 1 : Int32).toInt ∧ (Int32.ofInt 1 : Int32).toInt ≤ 1) (by decide) (by decide)
          refine lv_iinc (v := v_68539) (lv' := [(7, .int v_68539), (6, .int r_67612), (0, .ref co), (1, .ref pl), (2, .int p0), (3, .int p1), (4, .int p2), (5, .ref vs)]) hx hb dX0_expectPay_62 hl (k := 0) rfl v_68539_e.symm (by decide) rfl (fun ls hl => ?_)
          refine lv_goto (tgt := 14) hx hb dX0_expectPay_65 (by decide) ?_
          exact ih_68388 v_68539 f_68538 H _ ls (tr_w h_v_68539 (by decide) (by decide)) (by (first | (clear hw_67617 h_v_68530 c_68531_i h_68533; omega) | omega)) (hP.sub [0, 1, 2, 3, 4, 5, 6, 7, 8, 9, 10, 11, 12, 13, 14, 15, 16, 17, 18, 19, 20, 21, 22] rfl) (hD.sub [0, 1, 2, 3, 4, 5, 6, 7, 8, 9, 10, 11, 12, 13, 14, 15, 16, 17, 18, 19, 20, 21, 22] (by decide) rfl) hS (lv_sub hl [0, 1, 2, 3, 4, 5, 6, 7] rfl)
  exact lp_68388 13 0 ofr_67614 H _ ls (⟨by decide, by decide⟩ : 0 ≤ (0 : Int32).toInt ∧ (0 : Int32).toInt ≤ 12) (by decide) (hP.sub [0, 1, 2, 3, 4, 5, 6, 7, 8, 9, 10, 11, 12, 13, 14, 15, 16, 17, 18, 19, 20, 21, 22] rfl) (hD.sub [0, 1, 2, 3, 4, 5, 6, 7, 8, 9, 10, 11, 12, 13, 14, 15, 16, 17, 18, 19, 20, 21, 22] (by decide) rfl) hS (lv_sub hl [0, 1, 2, 3, 4, 5, 6, 7] rfl)
set_option maxHeartbeats 4000000 in
set_option maxRecDepth 100000 in
theorem c_X0_expectMoves (l : Launch) (D : va_G) (g : Nat → ClassId) (sz : Nat) (co : Nat) (pl : Nat) (p0 : Int32) (vs : Nat) (n : Nat) (eq : Nat) (co_place : Nat) (n_nodes : Int32) (n_kind : Nat) (n_pay : Nat) (n_name : Nat) (n_ways : Nat) (n_held : Nat) (n_targets : Nat) (n_weights : Nat) (n_fkind : Nat → Int32) (n_fpay : Nat → Int32) (n_fways : Nat → Int32) (n_fheld : Nat → Int32) (n_ftargets : Nat → Int32) (n_fweights : Nat → Int32) (pcf : Nat → Int32) (eq_rows : Nat) (eq_right : Nat) (ew : Int64) (fr : Nat → Int64) (rr : Nat → Nat) (ct : Nat → Nat → Int64) (plf : Nat → Int32) (vs_part : Nat) (vsw : Int64) (vsp : Nat → Int64) (h_n_nodes : 0 ≤ (n_nodes : Int32).toInt ∧ (n_nodes : Int32).toInt ≤ 12) (h_n_fkind : ∀ j : Nat, 0 ≤ (n_fkind j).toInt ∧ (n_fkind j).toInt ≤ 3) (h_n_fways : ∀ j : Nat, 0 ≤ (n_fways j).toInt ∧ (n_fways j).toInt ≤ 3) (h_n_fheld : ∀ j : Nat, (-1) ≤ (n_fheld j).toInt ∧ (n_fheld j).toInt ≤ 2) (h_n_ftargets : ∀ j : Nat, 0 ≤ (n_ftargets j).toInt ∧ (n_ftargets j).toInt ≤ 11) (h_pcf : ∀ j : Nat, (-1) ≤ (pcf j).toInt ∧ (pcf j).toInt ≤ 7) (h_plf : ∀ j : Nat, 0 ≤ (plf j).toInt ∧ (plf j).toInt ≤ 2) : Met l yX0_expectMoves (.code yX0_expectMoves cX0_expectMoves 6 none :: wsL_law) ({ frames := 3, cells := 0, slots := 0, locals := 78 }) (va_Pc [.ref co, .ref pl, .int p0, .ref vs] (fun U => U.heap.size = sz ∧ va_P D vwCl [(wO0 co n eq co_place), (wO2 n n_nodes n_kind n_pay n_name n_ways n_held n_targets n_weights), (wI g n_kind 0 12 n_fkind), (wI g n_pay 0 12 n_fpay), (wI g n_ways 0 12 n_fways), (wI g n_held 0 12 n_fheld), (wI g n_targets 0 36 n_ftargets), (wI g n_weights 0 36 n_fweights), (wI g co_place 0 12 pcf), (wO1 eq eq_rows eq_right ew), (wJ g eq_right 1 8 fr), (wR g eq_rows 5 8 (fun i => if i < 8 then some (rr i) else none)), (wJ g (rr 0) 1 8 (ct 0)), (wJ g (rr 1) 1 8 (ct 1)), (wJ g (rr 2) 1 8 (ct 2)), (wJ g (rr 3) 1 8 (ct 3)), (wJ g (rr 4) 1 8 (ct 4)), (wJ g (rr 5) 1 8 (ct 5)), (wJ g (rr 6) 1 8 (ct 6)), (wJ g (rr 7) 1 8 (ct 7)), (wI g pl 0 12 plf), (wO10 vs vs_part vsw), (wJ g vs_part 1 12 vsp)] U.heap ∧ va_K D vwCl (TY g) U ∧ va_D (fun _ => True) [(wO0 co n eq co_place), (wO2 n n_nodes n_kind n_pay n_name n_ways n_held n_targets n_weights), (wI g n_kind 0 12 n_fkind), (wI g n_pay 0 12 n_fpay), (wI g n_ways 0 12 n_fways), (wI g n_held 0 12 n_fheld), (wI g n_targets 0 36 n_ftargets), (wI g n_weights 0 36 n_fweights), (wI g co_place 0 12 pcf), (wO1 eq eq_rows eq_right ew), (wJ g eq_right 1 8 fr), (wR g eq_rows 5 8 (fun i => if i < 8 then some (rr i) else none)), (wJ g (rr 0) 1 8 (ct 0)), (wJ g (rr 1) 1 8 (ct 1)), (wJ g (rr 2) 1 8 (ct 2)), (wJ g (rr 3) 1 8 (ct 3)), (wJ g (rr 4) 1 8 (ct 4)), (wJ g (rr 5) 1 8 (ct 5)), (wJ g (rr 6) 1 8 (ct 6)), (wJ g (rr 7) 1 8 (ct 7)), (wI g pl 0 12 plf), (wO10 vs vs_part vsw), (wJ g vs_part 1 12 vsp)])) (va_Qv (fun (_ : Unit) => True) (fun _ t => ∃ opc : Nat → Int32, ∃ oew : Int64, ∃ ofr : Nat → Int64, ∃ ovw : Int64, ∃ ovp : Nat → Int64, ∃ oct : Nat → Nat → Int64, (∀ j : Nat, (-1) ≤ (opc j).toInt ∧ (opc j).toInt ≤ 7) ∧ va_P D vwCl [(wO0 co n eq co_place), (wO2 n n_nodes n_kind n_pay n_name n_ways n_held n_targets n_weights), (wI g n_kind 0 12 n_fkind), (wI g n_pay 0 12 n_fpay), (wI g n_ways 0 12 n_fways), (wI g n_held 0 12 n_fheld), (wI g n_targets 0 36 n_ftargets), (wI g n_weights 0 36 n_fweights), (wI g co_place 0 12 opc), (wO1 eq eq_rows eq_right oew), (wJ g eq_right 1 8 ofr), (wR g eq_rows 5 8 (fun i => if i < 8 then some (rr i) else none)), (wJ g (rr 0) 1 8 (oct 0)), (wJ g (rr 1) 1 8 (oct 1)), (wJ g (rr 2) 1 8 (oct 2)), (wJ g (rr 3) 1 8 (oct 3)), (wJ g (rr 4) 1 8 (oct 4)), (wJ g (rr 5) 1 8 (oct 5)), (wJ g (rr 6) 1 8 (oct 6)), (wJ g (rr 7) 1 8 (oct 7)), (wI g pl 0 12 plf), (wO10 vs vs_part ovw), (wJ g vs_part 1 12 ovp)] t.heap ∧ va_D (va_A [(wO0 co n eq co_place), (wO2 n n_nodes n_kind n_pay n_name n_ways n_held n_targets n_weights), (wI g n_kind 0 12 n_fkind), (wI g n_pay 0 12 n_fpay), (wI g n_ways 0 12 n_fways), (wI g n_held 0 12 n_fheld), (wI g n_targets 0 36 n_ftargets), (wI g n_weights 0 36 n_fweights), (wI g co_place 0 12 pcf), (wO1 eq eq_rows eq_right ew), (wJ g eq_right 1 8 fr), (wR g eq_rows 5 8 (fun i => if i < 8 then some (rr i) else none)), (wJ g (rr 0) 1 8 (ct 0)), (wJ g (rr 1) 1 8 (ct 1)), (wJ g (rr 2) 1 8 (ct 2)), (wJ g (rr 3) 1 8 (ct 3)), (wJ g (rr 4) 1 8 (ct 4)), (wJ g (rr 5) 1 8 (ct 5)), (wJ g (rr 6) 1 8 (ct 6)), (wJ g (rr 7) 1 8 (ct 7)), (wI g pl 0 12 plf), (wO10 vs vs_part vsw), (wJ g vs_part 1 12 vsp)] sz) [(wO0 co n eq co_place), (wO2 n n_nodes n_kind n_pay n_name n_ways n_held n_targets n_weights), (wI g n_kind 0 12 n_fkind), (wI g n_pay 0 12 n_fpay), (wI g n_ways 0 12 n_fways), (wI g n_held 0 12 n_fheld), (wI g n_targets 0 36 n_ftargets), (wI g n_weights 0 36 n_fweights), (wI g co_place 0 12 opc), (wO1 eq eq_rows eq_right oew), (wJ g eq_right 1 8 ofr), (wR g eq_rows 5 8 (fun i => if i < 8 then some (rr i) else none)), (wJ g (rr 0) 1 8 (oct 0)), (wJ g (rr 1) 1 8 (oct 1)), (wJ g (rr 2) 1 8 (oct 2)), (wJ g (rr 3) 1 8 (oct 3)), (wJ g (rr 4) 1 8 (oct 4)), (wJ g (rr 5) 1 8 (oct 5)), (wJ g (rr 6) 1 8 (oct 6)), (wJ g (rr 7) 1 8 (oct 7)), (wI g pl 0 12 plf), (wO10 vs vs_part ovw), (wJ g vs_part 1 12 ovp)]) (va_A [(wO0 co n eq co_place), (wO2 n n_nodes n_kind n_pay n_name n_ways n_held n_targets n_weights), (wI g n_kind 0 12 n_fkind), (wI g n_pay 0 12 n_fpay), (wI g n_ways 0 12 n_fways), (wI g n_held 0 12 n_fheld), (wI g n_targets 0 36 n_ftargets), (wI g n_weights 0 36 n_fweights), (wI g co_place 0 12 pcf), (wO1 eq eq_rows eq_right ew), (wJ g eq_right 1 8 fr), (wR g eq_rows 5 8 (fun i => if i < 8 then some (rr i) else none)), (wJ g (rr 0) 1 8 (ct 0)), (wJ g (rr 1) 1 8 (ct 1)), (wJ g (rr 2) 1 8 (ct 2)), (wJ g (rr 3) 1 8 (ct 3)), (wJ g (rr 4) 1 8 (ct 4)), (wJ g (rr 5) 1 8 (ct 5)), (wJ g (rr 6) 1 8 (ct 6)), (wJ g (rr 7) 1 8 (ct 7)), (wI g pl 0 12 plf), (wO10 vs vs_part vsw), (wJ g vs_part 1 12 vsp)] sz)) 0 0 (va_A [(wO0 co n eq co_place), (wO2 n n_nodes n_kind n_pay n_name n_ways n_held n_targets n_weights), (wI g n_kind 0 12 n_fkind), (wI g n_pay 0 12 n_fpay), (wI g n_ways 0 12 n_fways), (wI g n_held 0 12 n_fheld), (wI g n_targets 0 36 n_ftargets), (wI g n_weights 0 36 n_fweights), (wI g co_place 0 12 pcf), (wO1 eq eq_rows eq_right ew), (wJ g eq_right 1 8 fr), (wR g eq_rows 5 8 (fun i => if i < 8 then some (rr i) else none)), (wJ g (rr 0) 1 8 (ct 0)), (wJ g (rr 1) 1 8 (ct 1)), (wJ g (rr 2) 1 8 (ct 2)), (wJ g (rr 3) 1 8 (ct 3)), (wJ g (rr 4) 1 8 (ct 4)), (wJ g (rr 5) 1 8 (ct 5)), (wJ g (rr 6) 1 8 (ct 6)), (wJ g (rr 7) 1 8 (ct 7)), (wI g pl 0 12 plf), (wO10 vs vs_part vsw), (wJ g vs_part 1 12 vsp)] sz) := by
  refine Met.ofW (cc := cX0_expectMoves) (maxL := 6) (ret := none) (by decide) rfl ?_
  intro p e s m args below meth c s₁ B hml hv
  obtain ⟨ha, hsz, hP, hK, hD0⟩ := hv
  have hx := B.exec
  have hb := B.bytes
  have hr := B.returns
  have hts0 := atoms_spec (ws := (.code yX0_expectMoves cX0_expectMoves 6 none :: wsL_law)) B.pre
  have hts : ∀ w ∈ wsL_law, w.before args s = true := fun w h => hts0 w (List.mem_cons_of_mem _ h)
  have hown : s.vm.findClass RX0 = some m.cls := findClass_of_methodNamed B.named
  have hlocks := B.notSynchronized
  subst hsz
  have hD := hD0.self (sz := s.heap.size)
  generalize hAe : va_A [(wO0 co n eq co_place), (wO2 n n_nodes n_kind n_pay n_name n_ways n_held n_targets n_weights), (wI g n_kind 0 12 n_fkind), (wI g n_pay 0 12 n_fpay), (wI g n_ways 0 12 n_fways), (wI g n_held 0 12 n_fheld), (wI g n_targets 0 36 n_ftargets), (wI g n_weights 0 36 n_fweights), (wI g co_place 0 12 pcf), (wO1 eq eq_rows eq_right ew), (wJ g eq_right 1 8 fr), (wR g eq_rows 5 8 (fun i => if i < 8 then some (rr i) else none)), (wJ g (rr 0) 1 8 (ct 0)), (wJ g (rr 1) 1 8 (ct 1)), (wJ g (rr 2) 1 8 (ct 2)), (wJ g (rr 3) 1 8 (ct 3)), (wJ g (rr 4) 1 8 (ct 4)), (wJ g (rr 5) 1 8 (ct 5)), (wJ g (rr 6) 1 8 (ct 6)), (wJ g (rr 7) 1 8 (ct 7)), (wI g pl 0 12 plf), (wO10 vs vs_part vsw), (wJ g vs_part 1 12 vsp)] s.heap.size = A at hD ⊢
  have hA : ∀ q : Nat, s.heap.size ≤ q → A q := fun q h => by rw [← hAe]; exact Or.inr h
  have hS : va_S A s.heap s.heap [] := va_S.rf
  have hP : va_P D vwCl [(wO0 co n eq co_place), (wO2 n n_nodes n_kind n_pay n_name n_ways n_held n_targets n_weights), (wI g n_kind 0 12 n_fkind), (wI g n_pay 0 12 n_fpay), (wI g n_ways 0 12 n_fways), (wI g n_held 0 12 n_fheld), (wI g n_targets 0 36 n_ftargets), (wI g n_weights 0 36 n_fweights), (wI g co_place 0 12 pcf), (wO1 eq eq_rows eq_right ew), (wJ g eq_right 1 8 fr), (wR g eq_rows 5 8 (fun i => if i < 8 then some (rr i) else none)), (wJ g (rr 0) 1 8 (ct 0)), (wJ g (rr 1) 1 8 (ct 1)), (wJ g (rr 2) 1 8 (ct 2)), (wJ g (rr 3) 1 8 (ct 3)), (wJ g (rr 4) 1 8 (ct 4)), (wJ g (rr 5) 1 8 (ct 5)), (wJ g (rr 6) 1 8 (ct 6)), (wJ g (rr 7) 1 8 (ct 7)), (wI g pl 0 12 plf), (wO10 vs vs_part vsw), (wJ g vs_part 1 12 vsp)] s.heap := hP
  refine W.eq (g2 := entryFrame m ([.ref co, .ref pl, .int p0, .ref vs] : List Value).toArray 6) (by rw [ha]) ?_
  have hl := lv_entry ([.ref co, .ref pl, .int p0, .ref vs]) (n := 6) (Nat.le_of_ble_eq_true rfl)
  rw [lg_entry_eq]
  generalize (lg_sl ([.ref co, .ref pl, .int p0, .ref vs]) ++ List.replicate (6 - (lg_sl ([.ref co, .ref pl, .int p0, .ref vs])).length) Slot.unset).toArray = ls at hl ⊢
  have hl : lv_has ls 6 [(0, .ref co), (1, .ref pl), (2, .int p0), (3, .ref vs)] := hl
  refine lv_aload_n hx hb dX0_expectMoves_0 rfl (lv_at hl 0 rfl) ?_
  refine lv_aload_n hx hb dX0_expectMoves_1 rfl (lv_at hl 1 rfl) ?_
  refine lv_iload_n hx hb dX0_expectMoves_2 rfl (lv_at hl 2 rfl) ?_
  refine lv_iconst (v := 1) hx hb dX0_expectMoves_3 (by decide) ?_
  refine lv_iconst (v := 1) hx hb dX0_expectMoves_4 (by decide) ?_
  have hPc := hP.sub (ws' := [(wO0 co n eq co_place), (wO2 n n_nodes n_kind n_pay n_name n_ways n_held n_targets n_weights), (wI g n_kind 0 12 n_fkind), (wI g n_pay 0 12 n_fpay), (wI g n_ways 0 12 n_fways), (wI g n_held 0 12 n_fheld), (wI g n_targets 0 36 n_ftargets), (wI g n_weights 0 36 n_fweights), (wI g co_place 0 12 pcf), (wO1 eq eq_rows eq_right ew), (wJ g eq_right 1 8 fr), (wR g eq_rows 5 8 (fun i => if i < 8 then some (rr i) else none)), (wJ g (rr 0) 1 8 (ct 0)), (wJ g (rr 1) 1 8 (ct 1)), (wJ g (rr 2) 1 8 (ct 2)), (wJ g (rr 3) 1 8 (ct 3)), (wJ g (rr 4) 1 8 (ct 4)), (wJ g (rr 5) 1 8 (ct 5)), (wJ g (rr 6) 1 8 (ct 6)), (wJ g (rr 7) 1 8 (ct 7)), (wI g pl 0 12 plf)]) [0, 1, 2, 3, 4, 5, 6, 7, 8, 9, 10, 11, 12, 13, 14, 15, 16, 17, 18, 19, 20] rfl
  have hDc := hD.sub (ws' := [(wO0 co n eq co_place), (wO2 n n_nodes n_kind n_pay n_name n_ways n_held n_targets n_weights), (wI g n_kind 0 12 n_fkind), (wI g n_pay 0 12 n_fpay), (wI g n_ways 0 12 n_fways), (wI g n_held 0 12 n_fheld), (wI g n_targets 0 36 n_ftargets), (wI g n_weights 0 36 n_fweights), (wI g co_place 0 12 pcf), (wO1 eq eq_rows eq_right ew), (wJ g eq_right 1 8 fr), (wR g eq_rows 5 8 (fun i => if i < 8 then some (rr i) else none)), (wJ g (rr 0) 1 8 (ct 0)), (wJ g (rr 1) 1 8 (ct 1)), (wJ g (rr 2) 1 8 (ct 2)), (wJ g (rr 3) 1 8 (ct 3)), (wJ g (rr 4) 1 8 (ct 4)), (wJ g (rr 5) 1 8 (ct 5)), (wJ g (rr 6) 1 8 (ct 6)), (wJ g (rr 7) 1 8 (ct 7)), (wI g pl 0 12 plf)]) [0, 1, 2, 3, 4, 5, 6, 7, 8, 9, 10, 11, 12, 13, 14, 15, 16, 17, 18, 19, 20] (by decide) rfl
  have hFc := va_free (wc := [(wO0 co n eq co_place), (wO2 n n_nodes n_kind n_pay n_name n_ways n_held n_targets n_weights), (wI g n_kind 0 12 n_fkind), (wI g n_pay 0 12 n_fpay), (wI g n_ways 0 12 n_fways), (wI g n_held 0 12 n_fheld), (wI g n_targets 0 36 n_ftargets), (wI g n_weights 0 36 n_fweights), (wI g co_place 0 12 pcf), (wO1 eq eq_rows eq_right ew), (wJ g eq_right 1 8 fr), (wR g eq_rows 5 8 (fun i => if i < 8 then some (rr i) else none)), (wJ g (rr 0) 1 8 (ct 0)), (wJ g (rr 1) 1 8 (ct 1)), (wJ g (rr 2) 1 8 (ct 2)), (wJ g (rr 3) 1 8 (ct 3)), (wJ g (rr 4) 1 8 (ct 4)), (wJ g (rr 5) 1 8 (ct 5)), (wJ g (rr 6) 1 8 (ct 6)), (wJ g (rr 7) 1 8 (ct 7)), (wI g pl 0 12 plf)]) hD hS hA [0, 1, 2, 3, 4, 5, 6, 7, 8, 9, 10, 11, 12, 13, 14, 15, 16, 17, 18, 19, 20] rfl
  refine va_calli (va_runV (As := [.ref pl, .int p0, .int 1, .int 1]) (rest := []) ⟨hx, hb, hml, hown, hts⟩ (c_X0_lay l D g s.heap.size co pl p0 1 1 n eq co_place n_nodes n_kind n_pay n_name n_ways n_held n_targets n_weights n_fkind n_fpay n_fways n_fheld n_ftargets n_fweights pcf eq_rows eq_right ew fr rr ct plf (tr_w h_n_nodes (by decide) (by decide)) (tr_wa h_n_fkind (by decide) (by decide)) (tr_wa h_n_fways (by decide) (by decide)) (tr_wa h_n_fheld (by decide) (by decide)) (tr_wa h_n_ftargets (by decide) (by decide)) (tr_wa h_pcf (by decide) (by decide)) (tr_wa h_plf (by decide) (by decide))) (cwV 4 hts (tz_gV qw_516 qw_517 qw_518 qw_470 qw_519) rfl rfl rfl (by decide +kernel) ⟨Nat.le_of_ble_eq_true rfl, Nat.le_of_ble_eq_true rfl⟩) ⟨tz_blQ, va_recv hK hPc (ci := 0) (q0 := 0) rfl rfl, tz_preQ hPc hK hDc⟩ rfl rfl hl.1 rfl (lv_room (Nat.le_of_ble_eq_true rfl)) dX0_expectMoves_5 ⟨Nat.le_of_ble_eq_true rfl, Nat.le_of_ble_eq_true rfl⟩) hS (fun q _ h => hFc q h) hFc (fun r_68540 u t H1 locs ht hvm hw hB hz1 hk1 hS => ?_)
  obtain ⟨opc_68541, ofr_68542, oct_68543, hf_68544, hP1, hD1⟩ := hB
  rw [ht] at hP1
  obtain ⟨hP, hD⟩ := va_join (wr := [(wO10 vs vs_part vsw), (wJ g vs_part 1 12 vsp)]) (w1 := [(wO0 co n eq co_place), (wO2 n n_nodes n_kind n_pay n_name n_ways n_held n_targets n_weights), (wI g n_kind 0 12 n_fkind), (wI g n_pay 0 12 n_fpay), (wI g n_ways 0 12 n_fways), (wI g n_held 0 12 n_fheld), (wI g n_targets 0 36 n_ftargets), (wI g n_weights 0 36 n_fweights), (wI g co_place 0 12 opc_68541), (wO1 eq eq_rows eq_right ew), (wJ g eq_right 1 8 ofr_68542), (wR g eq_rows 5 8 (fun i => if i < 8 then some (rr i) else none)), (wJ g (rr 0) 1 8 (oct_68543 0)), (wJ g (rr 1) 1 8 (oct_68543 1)), (wJ g (rr 2) 1 8 (oct_68543 2)), (wJ g (rr 3) 1 8 (oct_68543 3)), (wJ g (rr 4) 1 8 (oct_68543 4)), (wJ g (rr 5) 1 8 (oct_68543 5)), (wJ g (rr 6) 1 8 (oct_68543 6)), (wJ g (rr 7) 1 8 (oct_68543 7)), (wI g pl 0 12 plf)]) hP hD [0, 1, 2, 3, 4, 5, 6, 7, 8, 9, 10, 11, 12, 13, 14, 15, 16, 17, 18, 19, 20] [21, 22] rfl rfl (by decide) (by decide) hk1 hFc hP1 hD1
  generalize H1 = H at hP hS ⊢
  have hP : va_P D vwCl [(wO10 vs vs_part vsw), (wJ g vs_part 1 12 vsp), (wO0 co n eq co_place), (wO2 n n_nodes n_kind n_pay n_name n_ways n_held n_targets n_weights), (wI g n_kind 0 12 n_fkind), (wI g n_pay 0 12 n_fpay), (wI g n_ways 0 12 n_fways), (wI g n_held 0 12 n_fheld), (wI g n_targets 0 36 n_ftargets), (wI g n_weights 0 36 n_fweights), (wI g co_place 0 12 opc_68541), (wO1 eq eq_rows eq_right ew), (wJ g eq_right 1 8 ofr_68542), (wR g eq_rows 5 8 (fun i => if i < 8 then some (rr i) else none)), (wJ g (rr 0) 1 8 (oct_68543 0)), (wJ g (rr 1) 1 8 (oct_68543 1)), (wJ g (rr 2) 1 8 (oct_68543 2)), (wJ g (rr 3) 1 8 (oct_68543 3)), (wJ g (rr 4) 1 8 (oct_68543 4)), (wJ g (rr 5) 1 8 (oct_68543 5)), (wJ g (rr 6) 1 8 (oct_68543 6)), (wJ g (rr 7) 1 8 (oct_68543 7)), (wI g pl 0 12 plf)] H := hP
  have hD : va_D A [(wO10 vs vs_part vsw), (wJ g vs_part 1 12 vsp), (wO0 co n eq co_place), (wO2 n n_nodes n_kind n_pay n_name n_ways n_held n_targets n_weights), (wI g n_kind 0 12 n_fkind), (wI g n_pay 0 12 n_fpay), (wI g n_ways 0 12 n_fways), (wI g n_held 0 12 n_fheld), (wI g n_targets 0 36 n_ftargets), (wI g n_weights 0 36 n_fweights), (wI g co_place 0 12 opc_68541), (wO1 eq eq_rows eq_right ew), (wJ g eq_right 1 8 ofr_68542), (wR g eq_rows 5 8 (fun i => if i < 8 then some (rr i) else none)), (wJ g (rr 0) 1 8 (oct_68543 0)), (wJ g (rr 1) 1 8 (oct_68543 1)), (wJ g (rr 2) 1 8 (oct_68543 2)), (wJ g (rr 3) 1 8 (oct_68543 3)), (wJ g (rr 4) 1 8 (oct_68543 4)), (wJ g (rr 5) 1 8 (oct_68543 5)), (wJ g (rr 6) 1 8 (oct_68543 6)), (wJ g (rr 7) 1 8 (oct_68543 7)), (wI g pl 0 12 plf)] := hD
  have hw_68545 : 0 ≤ (r_68540 : Int32).toInt ∧ (r_68540 : Int32).toInt ≤ 8 := hw
  refine lv_istore (lv' := [(4, .int r_68540), (0, .ref co), (1, .ref pl), (2, .int p0), (3, .ref vs)]) hx hb dX0_expectMoves_8 hl (by decide) rfl (fun ls hl => ?_)
  refine lv_iconst (v := 0) hx hb dX0_expectMoves_10 (by decide) ?_
  refine lv_istore (lv' := [(5, .int 0), (4, .int r_68540), (0, .ref co), (1, .ref pl), (2, .int p0), (3, .ref vs)]) hx hb dX0_expectMoves_11 hl (by decide) rfl (fun ls hl => ?_)
  have lp_68704 : ∀ (n_68704 : Nat) (x_68702 : Int32) (f_68703 : Nat → Int64) (H : Heap) (locs : List Loc) (ls : Array Slot), (0 ≤ (x_68702 : Int32).toInt ∧ (x_68702 : Int32).toInt ≤ 12) → (12 - x_68702.toInt < (n_68704 : Int)) → va_P D vwCl [(wO10 vs vs_part vsw), (wJ g vs_part 1 12 vsp), (wO0 co n eq co_place), (wO2 n n_nodes n_kind n_pay n_name n_ways n_held n_targets n_weights), (wI g n_kind 0 12 n_fkind), (wI g n_pay 0 12 n_fpay), (wI g n_ways 0 12 n_fways), (wI g n_held 0 12 n_fheld), (wI g n_targets 0 36 n_ftargets), (wI g n_weights 0 36 n_fweights), (wI g co_place 0 12 opc_68541), (wO1 eq eq_rows eq_right ew), (wJ g eq_right 1 8 f_68703), (wR g eq_rows 5 8 (fun i => if i < 8 then some (rr i) else none)), (wJ g (rr 0) 1 8 (oct_68543 0)), (wJ g (rr 1) 1 8 (oct_68543 1)), (wJ g (rr 2) 1 8 (oct_68543 2)), (wJ g (rr 3) 1 8 (oct_68543 3)), (wJ g (rr 4) 1 8 (oct_68543 4)), (wJ g (rr 5) 1 8 (oct_68543 5)), (wJ g (rr 6) 1 8 (oct_68543 6)), (wJ g (rr 7) 1 8 (oct_68543 7)), (wI g pl 0 12 plf)] H → va_D A [(wO10 vs vs_part vsw), (wJ g vs_part 1 12 vsp), (wO0 co n eq co_place), (wO2 n n_nodes n_kind n_pay n_name n_ways n_held n_targets n_weights), (wI g n_kind 0 12 n_fkind), (wI g n_pay 0 12 n_fpay), (wI g n_ways 0 12 n_fways), (wI g n_held 0 12 n_fheld), (wI g n_targets 0 36 n_ftargets), (wI g n_weights 0 36 n_fweights), (wI g co_place 0 12 opc_68541), (wO1 eq eq_rows eq_right ew), (wJ g eq_right 1 8 f_68703), (wR g eq_rows 5 8 (fun i => if i < 8 then some (rr i) else none)), (wJ g (rr 0) 1 8 (oct_68543 0)), (wJ g (rr 1) 1 8 (oct_68543 1)), (wJ g (rr 2) 1 8 (oct_68543 2)), (wJ g (rr 3) 1 8 (oct_68543 3)), (wJ g (rr 4) 1 8 (oct_68543 4)), (wJ g (rr 5) 1 8 (oct_68543 5)), (wJ g (rr 6) 1 8 (oct_68543 6)), (wJ g (rr 7) 1 8 (oct_68543 7)), (wI g pl 0 12 plf)] → va_S A s.heap H locs → lv_has ls 6 [(5, .int x_68702), (4, .int r_68540), (0, .ref co), (1, .ref pl), (2, .int p0), (3, .ref vs)] → W p l e (headSpec (.code yX0_expectMoves cX0_expectMoves 6 none :: wsL_law) ({ frames := 3, cells := 0, slots := 0, locals := 78 })).room s m args below meth c H locs 0 0 (MQ below (va_Qv (fun (_ : Unit) => True) (fun _ t => ∃ opc : Nat → Int32, ∃ oew : Int64, ∃ ofr : Nat → Int64, ∃ ovw : Int64, ∃ ovp : Nat → Int64, ∃ oct : Nat → Nat → Int64, (∀ j : Nat, (-1) ≤ (opc j).toInt ∧ (opc j).toInt ≤ 7) ∧ va_P D vwCl [(wO0 co n eq co_place), (wO2 n n_nodes n_kind n_pay n_name n_ways n_held n_targets n_weights), (wI g n_kind 0 12 n_fkind), (wI g n_pay 0 12 n_fpay), (wI g n_ways 0 12 n_fways), (wI g n_held 0 12 n_fheld), (wI g n_targets 0 36 n_ftargets), (wI g n_weights 0 36 n_fweights), (wI g co_place 0 12 opc), (wO1 eq eq_rows eq_right oew), (wJ g eq_right 1 8 ofr), (wR g eq_rows 5 8 (fun i => if i < 8 then some (rr i) else none)), (wJ g (rr 0) 1 8 (oct 0)), (wJ g (rr 1) 1 8 (oct 1)), (wJ g (rr 2) 1 8 (oct 2)), (wJ g (rr 3) 1 8 (oct 3)), (wJ g (rr 4) 1 8 (oct 4)), (wJ g (rr 5) 1 8 (oct 5)), (wJ g (rr 6) 1 8 (oct 6)), (wJ g (rr 7) 1 8 (oct 7)), (wI g pl 0 12 plf), (wO10 vs vs_part ovw), (wJ g vs_part 1 12 ovp)] t.heap ∧ va_D A [(wO0 co n eq co_place), (wO2 n n_nodes n_kind n_pay n_name n_ways n_held n_targets n_weights), (wI g n_kind 0 12 n_fkind), (wI g n_pay 0 12 n_fpay), (wI g n_ways 0 12 n_fways), (wI g n_held 0 12 n_fheld), (wI g n_targets 0 36 n_ftargets), (wI g n_weights 0 36 n_fweights), (wI g co_place 0 12 opc), (wO1 eq eq_rows eq_right oew), (wJ g eq_right 1 8 ofr), (wR g eq_rows 5 8 (fun i => if i < 8 then some (rr i) else none)), (wJ g (rr 0) 1 8 (oct 0)), (wJ g (rr 1) 1 8 (oct 1)), (wJ g (rr 2) 1 8 (oct 2)), (wJ g (rr 3) 1 8 (oct 3)), (wJ g (rr 4) 1 8 (oct 4)), (wJ g (rr 5) 1 8 (oct 5)), (wJ g (rr 6) 1 8 (oct 6)), (wJ g (rr 7) 1 8 (oct 7)), (wI g pl 0 12 plf), (wO10 vs vs_part ovw), (wJ g vs_part 1 12 ovp)]) A) args s 0 0 A) (F0 m 13 ls []) := by
    intro n_68704
    induction n_68704 with
    | zero =>
      intro x_68702 f_68703 H locs ls h_x_68702 hm_68704 hP hD hS hl
      exfalso; omega
    | succ n_68704 ih_68704 =>
      intro x_68702 f_68703 H locs ls h_x_68702 hm_68704 hP hD hS hl
      refine lv_iload hx hb dX0_expectMoves_13 (lv_at hl 0 rfl) ?_
      refine lv_aload_n hx hb dX0_expectMoves_15 rfl (lv_at hl 2 rfl) ?_
      refine va_get (D := D) (ci := 0) (v := .ref n) (C := RX0) (T := TX0) (N := 3) hx hb hts inlX0 hown hK hP 2 rfl rfl 0 (by decide) (hts (Cond.fieldLink RX0 22 "ChanceRings$Course" "net" "LChanceRings$Net;") qw_463) (fun _ h9 => h9) rfl dX0_expectMoves_16 ?_
      refine va_get (D := D) (ci := 2) (v := .int n_nodes) (C := RX2) (T := TX2) (N := 8) hx hb hts inlX2 hown hK hP 3 rfl rfl 0 (by decide) (hts (Cond.fieldLink RX0 49 "ChanceRings$Net" "nodes" "I") qw_473) (fun _ h9 => h9) rfl dX0_expectMoves_19 ?_
      refine lv_icmp_ge (tgt := 67) hx hb dX0_expectMoves_22 (by decide) (fun c_68705 => ?_) (fun c_68705 => ?_)
      · skip
        refine lv_aload_n hx hb dX0_expectMoves_67 rfl (lv_at hl 2 rfl) ?_
        refine lv_iload hx hb dX0_expectMoves_68 (lv_at hl 1 rfl) ?_
        refine lv_aload_n hx hb dX0_expectMoves_70 rfl (lv_at hl 5 rfl) ?_
        have hPc := hP.sub (ws' := [(wO0 co n eq co_place), (wO2 n n_nodes n_kind n_pay n_name n_ways n_held n_targets n_weights), (wI g n_kind 0 12 n_fkind), (wI g n_pay 0 12 n_fpay), (wI g n_ways 0 12 n_fways), (wI g n_held 0 12 n_fheld), (wI g n_targets 0 36 n_ftargets), (wI g n_weights 0 36 n_fweights), (wI g co_place 0 12 opc_68541), (wO1 eq eq_rows eq_right ew), (wJ g eq_right 1 8 f_68703), (wR g eq_rows 5 8 (fun i => if i < 8 then some (rr i) else none)), (wJ g (rr 0) 1 8 (oct_68543 0)), (wJ g (rr 1) 1 8 (oct_68543 1)), (wJ g (rr 2) 1 8 (oct_68543 2)), (wJ g (rr 3) 1 8 (oct_68543 3)), (wJ g (rr 4) 1 8 (oct_68543 4)), (wJ g (rr 5) 1 8 (oct_68543 5)), (wJ g (rr 6) 1 8 (oct_68543 6)), (wJ g (rr 7) 1 8 (oct_68543 7)), (wO10 vs vs_part vsw), (wJ g vs_part 1 12 vsp)]) [2, 3, 4, 5, 6, 7, 8, 9, 10, 11, 12, 13, 14, 15, 16, 17, 18, 19, 20, 21, 0, 1] rfl
        have hDc := hD.sub (ws' := [(wO0 co n eq co_place), (wO2 n n_nodes n_kind n_pay n_name n_ways n_held n_targets n_weights), (wI g n_kind 0 12 n_fkind), (wI g n_pay 0 12 n_fpay), (wI g n_ways 0 12 n_fways), (wI g n_held 0 12 n_fheld), (wI g n_targets 0 36 n_ftargets), (wI g n_weights 0 36 n_fweights), (wI g co_place 0 12 opc_68541), (wO1 eq eq_rows eq_right ew), (wJ g eq_right 1 8 f_68703), (wR g eq_rows 5 8 (fun i => if i < 8 then some (rr i) else none)), (wJ g (rr 0) 1 8 (oct_68543 0)), (wJ g (rr 1) 1 8 (oct_68543 1)), (wJ g (rr 2) 1 8 (oct_68543 2)), (wJ g (rr 3) 1 8 (oct_68543 3)), (wJ g (rr 4) 1 8 (oct_68543 4)), (wJ g (rr 5) 1 8 (oct_68543 5)), (wJ g (rr 6) 1 8 (oct_68543 6)), (wJ g (rr 7) 1 8 (oct_68543 7)), (wO10 vs vs_part vsw), (wJ g vs_part 1 12 vsp)]) [2, 3, 4, 5, 6, 7, 8, 9, 10, 11, 12, 13, 14, 15, 16, 17, 18, 19, 20, 21, 0, 1] (by decide) rfl
        have hFc := va_free (wc := [(wO0 co n eq co_place), (wO2 n n_nodes n_kind n_pay n_name n_ways n_held n_targets n_weights), (wI g n_kind 0 12 n_fkind), (wI g n_pay 0 12 n_fpay), (wI g n_ways 0 12 n_fways), (wI g n_held 0 12 n_fheld), (wI g n_targets 0 36 n_ftargets), (wI g n_weights 0 36 n_fweights), (wI g co_place 0 12 opc_68541), (wO1 eq eq_rows eq_right ew), (wJ g eq_right 1 8 f_68703), (wR g eq_rows 5 8 (fun i => if i < 8 then some (rr i) else none)), (wJ g (rr 0) 1 8 (oct_68543 0)), (wJ g (rr 1) 1 8 (oct_68543 1)), (wJ g (rr 2) 1 8 (oct_68543 2)), (wJ g (rr 3) 1 8 (oct_68543 3)), (wJ g (rr 4) 1 8 (oct_68543 4)), (wJ g (rr 5) 1 8 (oct_68543 5)), (wJ g (rr 6) 1 8 (oct_68543 6)), (wJ g (rr 7) 1 8 (oct_68543 7)), (wO10 vs vs_part vsw), (wJ g vs_part 1 12 vsp)]) hD hS hA [2, 3, 4, 5, 6, 7, 8, 9, 10, 11, 12, 13, 14, 15, 16, 17, 18, 19, 20, 21, 0, 1] rfl
        refine va_callv (va_runV (As := [.int r_68540, .ref vs]) (rest := []) ⟨hx, hb, hml, hown, hts⟩ (c_X0_finish l D g H.size co r_68540 vs n eq co_place n_nodes n_kind n_pay n_name n_ways n_held n_targets n_weights n_fkind n_fpay n_fways n_fheld n_ftargets n_fweights opc_68541 eq_rows eq_right ew f_68703 rr oct_68543 vs_part vsw vsp (tr_w hw_68545 (by decide) (by decide)) (tr_w h_n_nodes (by decide) (by decide)) (tr_wa h_n_fkind (by decide) (by decide)) (tr_wa h_n_fways (by decide) (by decide)) (tr_wa h_n_fheld (by decide) (by decide)) (tr_wa h_n_ftargets (by decide) (by decide)) (tr_wa hf_68544 (by decide) (by decide))) (cwV 2 hts (tz_gV qw_520 qw_521 qw_522 qw_470 qw_523) rfl rfl rfl (by decide +kernel) ⟨Nat.le_of_ble_eq_true rfl, Nat.le_of_ble_eq_true rfl⟩) ⟨tz_blQ, va_recv hK hPc (ci := 0) (q0 := 0) rfl rfl, tz_preQ hPc hK hDc⟩ rfl rfl hl.1 rfl (lv_room (Nat.le_of_ble_eq_true rfl)) dX0_expectMoves_71 ⟨Nat.le_of_ble_eq_true rfl, Nat.le_of_ble_eq_true rfl⟩) hS (fun q _ h => hFc q h) hFc (fun u t H1 locs ht hvm hw hB hz1 hk1 hS => ?_)
        obtain ⟨oew_68709, ofr_68710, ovw_68711, ovp_68712, oct_68713, hP1, hD1⟩ := hB
        rw [ht] at hP1
        obtain ⟨hP, hD⟩ := va_join (wr := [(wI g pl 0 12 plf)]) (w1 := [(wO0 co n eq co_place), (wO2 n n_nodes n_kind n_pay n_name n_ways n_held n_targets n_weights), (wI g n_kind 0 12 n_fkind), (wI g n_pay 0 12 n_fpay), (wI g n_ways 0 12 n_fways), (wI g n_held 0 12 n_fheld), (wI g n_targets 0 36 n_ftargets), (wI g n_weights 0 36 n_fweights), (wI g co_place 0 12 opc_68541), (wO1 eq eq_rows eq_right oew_68709), (wJ g eq_right 1 8 ofr_68710), (wR g eq_rows 5 8 (fun i => if i < 8 then some (rr i) else none)), (wJ g (rr 0) 1 8 (oct_68713 0)), (wJ g (rr 1) 1 8 (oct_68713 1)), (wJ g (rr 2) 1 8 (oct_68713 2)), (wJ g (rr 3) 1 8 (oct_68713 3)), (wJ g (rr 4) 1 8 (oct_68713 4)), (wJ g (rr 5) 1 8 (oct_68713 5)), (wJ g (rr 6) 1 8 (oct_68713 6)), (wJ g (rr 7) 1 8 (oct_68713 7)), (wO10 vs vs_part ovw_68711), (wJ g vs_part 1 12 ovp_68712)]) hP hD [2, 3, 4, 5, 6, 7, 8, 9, 10, 11, 12, 13, 14, 15, 16, 17, 18, 19, 20, 21, 0, 1] [22] rfl rfl (by decide) (by decide) hk1 hFc hP1 hD1
        generalize H1 = H at hP hS ⊢
        have hP : va_P D vwCl [(wI g pl 0 12 plf), (wO0 co n eq co_place), (wO2 n n_nodes n_kind n_pay n_name n_ways n_held n_targets n_weights), (wI g n_kind 0 12 n_fkind), (wI g n_pay 0 12 n_fpay), (wI g n_ways 0 12 n_fways), (wI g n_held 0 12 n_fheld), (wI g n_targets 0 36 n_ftargets), (wI g n_weights 0 36 n_fweights), (wI g co_place 0 12 opc_68541), (wO1 eq eq_rows eq_right oew_68709), (wJ g eq_right 1 8 ofr_68710), (wR g eq_rows 5 8 (fun i => if i < 8 then some (rr i) else none)), (wJ g (rr 0) 1 8 (oct_68713 0)), (wJ g (rr 1) 1 8 (oct_68713 1)), (wJ g (rr 2) 1 8 (oct_68713 2)), (wJ g (rr 3) 1 8 (oct_68713 3)), (wJ g (rr 4) 1 8 (oct_68713 4)), (wJ g (rr 5) 1 8 (oct_68713 5)), (wJ g (rr 6) 1 8 (oct_68713 6)), (wJ g (rr 7) 1 8 (oct_68713 7)), (wO10 vs vs_part ovw_68711), (wJ g vs_part 1 12 ovp_68712)] H := hP
        have hD : va_D A [(wI g pl 0 12 plf), (wO0 co n eq co_place), (wO2 n n_nodes n_kind n_pay n_name n_ways n_held n_targets n_weights), (wI g n_kind 0 12 n_fkind), (wI g n_pay 0 12 n_fpay), (wI g n_ways 0 12 n_fways), (wI g n_held 0 12 n_fheld), (wI g n_targets 0 36 n_ftargets), (wI g n_weights 0 36 n_fweights), (wI g co_place 0 12 opc_68541), (wO1 eq eq_rows eq_right oew_68709), (wJ g eq_right 1 8 ofr_68710), (wR g eq_rows 5 8 (fun i => if i < 8 then some (rr i) else none)), (wJ g (rr 0) 1 8 (oct_68713 0)), (wJ g (rr 1) 1 8 (oct_68713 1)), (wJ g (rr 2) 1 8 (oct_68713 2)), (wJ g (rr 3) 1 8 (oct_68713 3)), (wJ g (rr 4) 1 8 (oct_68713 4)), (wJ g (rr 5) 1 8 (oct_68713 5)), (wJ g (rr 6) 1 8 (oct_68713 6)), (wJ g (rr 7) 1 8 (oct_68713 7)), (wO10 vs vs_part ovw_68711), (wJ g vs_part 1 12 ovp_68712)] := hD
        have hP9 := hP.sub (ws' := [(wO0 co n eq co_place), (wO2 n n_nodes n_kind n_pay n_name n_ways n_held n_targets n_weights), (wI g n_kind 0 12 n_fkind), (wI g n_pay 0 12 n_fpay), (wI g n_ways 0 12 n_fways), (wI g n_held 0 12 n_fheld), (wI g n_targets 0 36 n_ftargets), (wI g n_weights 0 36 n_fweights), (wI g co_place 0 12 opc_68541), (wO1 eq eq_rows eq_right oew_68709), (wJ g eq_right 1 8 ofr_68710), (wR g eq_rows 5 8 (fun i => if i < 8 then some (rr i) else none)), (wJ g (rr 0) 1 8 (oct_68713 0)), (wJ g (rr 1) 1 8 (oct_68713 1)), (wJ g (rr 2) 1 8 (oct_68713 2)), (wJ g (rr 3) 1 8 (oct_68713 3)), (wJ g (rr 4) 1 8 (oct_68713 4)), (wJ g (rr 5) 1 8 (oct_68713 5)), (wJ g (rr 6) 1 8 (oct_68713 6)), (wJ g (rr 7) 1 8 (oct_68713 7)), (wI g pl 0 12 plf), (wO10 vs vs_part ovw_68711), (wJ g vs_part 1 12 ovp_68712)]) [1, 2, 3, 4, 5, 6, 7, 8, 9, 10, 11, 12, 13, 14, 15, 16, 17, 18, 19, 20, 0, 21, 22] rfl
        have hD9 := hD.sub (ws' := [(wO0 co n eq co_place), (wO2 n n_nodes n_kind n_pay n_name n_ways n_held n_targets n_weights), (wI g n_kind 0 12 n_fkind), (wI g n_pay 0 12 n_fpay), (wI g n_ways 0 12 n_fways), (wI g n_held 0 12 n_fheld), (wI g n_targets 0 36 n_ftargets), (wI g n_weights 0 36 n_fweights), (wI g co_place 0 12 opc_68541), (wO1 eq eq_rows eq_right oew_68709), (wJ g eq_right 1 8 ofr_68710), (wR g eq_rows 5 8 (fun i => if i < 8 then some (rr i) else none)), (wJ g (rr 0) 1 8 (oct_68713 0)), (wJ g (rr 1) 1 8 (oct_68713 1)), (wJ g (rr 2) 1 8 (oct_68713 2)), (wJ g (rr 3) 1 8 (oct_68713 3)), (wJ g (rr 4) 1 8 (oct_68713 4)), (wJ g (rr 5) 1 8 (oct_68713 5)), (wJ g (rr 6) 1 8 (oct_68713 6)), (wJ g (rr 7) 1 8 (oct_68713 7)), (wI g pl 0 12 plf), (wO10 vs vs_part ovw_68711), (wJ g vs_part 1 12 ovp_68712)]) [1, 2, 3, 4, 5, 6, 7, 8, 9, 10, 11, 12, 13, 14, 15, 16, 17, 18, 19, 20, 0, 21, 22] (by decide) rfl
        exact W.vret hx hb hr (fun t ht hW => ⟨⟨(), rfl, trivial, opc_68541, oew_68709, ofr_68710, ovw_68711, ovp_68712, oct_68713, (tr_wa hf_68544 (by decide) (by decide)), by rw [ht]; exact hP9, hD9⟩, hS.F ht⟩) hS.2.2 dX0_expectMoves_74
      · skip
        have c_68705_i := Int32.lt_iff_toInt_lt.mp (Int32.not_le.mp c_68705)
        have h_68706 : 0 ≤ (x_68702 : Int32).toInt ∧ (x_68702 : Int32).toInt ≤ 11 := nr_lt_l h_x_68702 h_n_nodes c_68705_i (by decide) (by decide)
        have h_68707 : 1 ≤ (n_nodes : Int32).toInt ∧ (n_nodes : Int32).toInt ≤ 12 := nr_lt_r h_x_68702 h_n_nodes c_68705_i (by decide) (by decide)
        refine lv_aload_n hx hb dX0_expectMoves_25 rfl (lv_at hl 2 rfl) ?_
        refine va_get (D := D) (ci := 0) (v := .ref co_place) (C := RX0) (T := TX0) (N := 3) hx hb hts inlX0 hown hK hP 2 rfl rfl 2 (by decide) (hts (Cond.fieldLink RX0 18 "ChanceRings$Course" "place" "[I") qw_474) (fun _ h9 => h9) rfl dX0_expectMoves_26 ?_
        refine lv_iload hx hb dX0_expectMoves_29 (lv_at hl 0 rfl) ?_
        refine va_iald hx hb hK hP 10 0 rfl rfl (tr_in h_68706 (by decide) (by decide)) dX0_expectMoves_31 ?_
        refine lv_topi (fun v_68714 v_68714_e => ?_)
        have h_v_68714 : (-1) ≤ (v_68714 : Int32).toInt ∧ (v_68714 : Int32).toInt ≤ 7 := by rw [v_68714_e]; exact hf_68544 _
        refine lv_iconst (v := (-1)) hx hb dX0_expectMoves_32 (by decide) ?_
        refine lv_icmp_eq (tgt := 61) hx hb dX0_expectMoves_33 (by decide) (fun c_68715 => ?_) (fun c_68715 => ?_)
        · skip
          have c_68715_i : (v_68714 : Int32).toInt = ((-1) : Int32).toInt := congrArg Int32.toInt c_68715
          have h_68716 : (-1) ≤ (v_68714 : Int32).toInt ∧ (v_68714 : Int32).toInt ≤ (-1) := nr_eq_l h_v_68714 (⟨by decide, by decide⟩ : (-1) ≤ ((-1) : Int32).toInt ∧ ((-1) : Int32).toInt ≤ (-1)) c_68715_i (by decide) (by decide)
          obtain ⟨v_68718, v_68718_e⟩ : ∃ y : Int32, y = x_68702 + Int32.ofInt 1 := ⟨_, rfl⟩
          have h_v_68718 : 1 ≤ (v_68718 : Int32).toInt ∧ (v_68718 : Int32).toInt ≤ 12 := by rw [v_68718_e]; exact tr_add h_68706 (⟨by decide, by decide⟩ : 1 ≤ (Int32.ofInt 1 : Int32).toInt ∧ (Int32.ofInt 1 : Int32).toInt ≤ 1) (by decide) (by decide) (by decide) (by decide)
          have q_v_68718 : v_68718.toInt = x_68702.toInt + 1 := by rw [v_68718_e]; exact tr_addE h_68706 (⟨by decide, by decide⟩ : 1 ≤ (Int32.ofInt 1 : Int32).toInt ∧ (Int32.ofInt 1 : Int32).toInt ≤ 1) (by decide) (by decide)
          refine lv_iinc (v := v_68718) (lv' := [(5, .int v_68718), (4, .int r_68540), (0, .ref co), (1, .ref pl), (2, .int p0), (3, .ref vs)]) hx hb dX0_expectMoves_61 hl (k := 0) rfl v_68718_e.symm (by decide) rfl (fun ls hl => ?_)
          refine lv_goto (tgt := 13) hx hb dX0_expectMoves_64 (by decide) ?_
          exact ih_68704 v_68718 f_68703 H _ ls (tr_w h_v_68718 (by decide) (by decide)) (by (first | (clear hw_68545 h_v_68714 c_68715_i h_68716; omega) | omega)) (hP.sub [0, 1, 2, 3, 4, 5, 6, 7, 8, 9, 10, 11, 12, 13, 14, 15, 16, 17, 18, 19, 20, 21, 22] rfl) (hD.sub [0, 1, 2, 3, 4, 5, 6, 7, 8, 9, 10, 11, 12, 13, 14, 15, 16, 17, 18, 19, 20, 21, 22] (by decide) rfl) hS (lv_sub hl [0, 1, 2, 3, 4, 5] rfl)
        · skip
          have c_68715_i : ¬ (v_68714 : Int32).toInt = ((-1) : Int32).toInt := (fun q => c_68715 (Int32.toInt_inj.mp q))
          have h_68717 : 0 ≤ (v_68714 : Int32).toInt ∧ (v_68714 : Int32).toInt ≤ 7 := nr_ne_l h_v_68714 (⟨by decide, by decide⟩ : (-1) ≤ ((-1) : Int32).toInt ∧ ((-1) : Int32).toInt ≤ (-1)) c_68715_i (by decide) (by decide)
          refine lv_aload_n hx hb dX0_expectMoves_36 rfl (lv_at hl 2 rfl) ?_
          refine va_get (D := D) (ci := 0) (v := .ref eq) (C := RX0) (T := TX0) (N := 3) hx hb hts inlX0 hown hK hP 2 rfl rfl 1 (by decide) (hts (Cond.fieldLink RX0 12 "ChanceRings$Course" "equations" "LChanceRings$Equations;") qw_497) (fun _ h9 => h9) rfl dX0_expectMoves_37 ?_
          refine va_get (D := D) (ci := 1) (v := .ref eq_right) (C := RX1) (T := TX1) (N := 3) hx hb hts inlX1 hown hK hP 11 rfl rfl 1 (by decide) (hts (Cond.fieldLink RX0 53 "ChanceRings$Equations" "right" "[J") qw_515) (fun _ h9 => h9) rfl dX0_expectMoves_40 ?_
          refine lv_aload_n hx hb dX0_expectMoves_43 rfl (lv_at hl 2 rfl) ?_
          refine va_get (D := D) (ci := 0) (v := .ref co_place) (C := RX0) (T := TX0) (N := 3) hx hb hts inlX0 hown hK hP 2 rfl rfl 2 (by decide) (hts (Cond.fieldLink RX0 18 "ChanceRings$Course" "place" "[I") qw_474) (fun _ h9 => h9) rfl dX0_expectMoves_44 ?_
          refine lv_iload hx hb dX0_expectMoves_47 (lv_at hl 0 rfl) ?_
          refine va_iald hx hb hK hP 10 0 rfl rfl (tr_in h_68706 (by decide) (by decide)) dX0_expectMoves_49 ?_
          refine tz_i (y := v_68714) v_68714_e.symm ?_
          refine lv_aload_n hx hb dX0_expectMoves_50 rfl (lv_at hl 2 rfl) ?_
          refine va_get (D := D) (ci := 0) (v := .ref n) (C := RX0) (T := TX0) (N := 3) hx hb hts inlX0 hown hK hP 2 rfl rfl 0 (by decide) (hts (Cond.fieldLink RX0 22 "ChanceRings$Course" "net" "LChanceRings$Net;") qw_463) (fun _ h9 => h9) rfl dX0_expectMoves_51 ?_
          refine lv_iload hx hb dX0_expectMoves_54 (lv_at hl 0 rfl) ?_
          have hPc := hP.sub (ws' := [(wO2 n n_nodes n_kind n_pay n_name n_ways n_held n_targets n_weights), (wI g n_kind 0 12 n_fkind), (wI g n_ways 0 12 n_fways), (wI g n_weights 0 36 n_fweights)]) [3, 4, 6, 9] rfl
          refine vp_callSi (va_Run.run (va_runV (As := [.int x_68702]) (rest := [.int v_68714, .ref eq_right]) ⟨hx, hb, hml, hown, hts⟩ (c_X2_together l D g n x_68702 n_nodes n_kind n_pay n_name n_ways n_held n_targets n_weights n_fkind n_fways n_fweights (tr_w h_68706 (by decide) (by decide)) (tr_w h_68707 (by decide) (by decide)) (tr_wa h_n_fkind (by decide) (by decide)) (tr_wa h_n_fways (by decide) (by decide))) (cwV 1 hts (tz_gV qw_507 qw_425 qw_426 qw_322 qw_427) rfl rfl rfl (by decide +kernel) ⟨Nat.le_of_ble_eq_true rfl, Nat.le_of_ble_eq_true rfl⟩) ⟨tz_blS, va_recv hK hPc (ci := 2) (q0 := 0) rfl rfl, tz_preS hPc hK⟩ rfl rfl hl.1 rfl (lv_room (Nat.le_of_ble_eq_true rfl)) dX0_expectMoves_56 ⟨Nat.le_of_ble_eq_true rfl, Nat.le_of_ble_eq_true rfl⟩)) (fun r_68719 hw => ?_)
          refine lv_i2l hx hb dX0_expectMoves_59 rfl ?_
          refine lv_topl (fun w_68720 _ => ?_)
          refine va_last hx hb hK hP hD hS 12 1 rfl rfl (tr_in h_68717 (by decide) (by decide)) dX0_expectMoves_60 (fun H locs hP hD hS => ?_)
          obtain ⟨f_68721, hP, hD⟩ : ∃ FX : Nat → Int64, va_P D vwCl [(wO10 vs vs_part vsw), (wJ g vs_part 1 12 vsp), (wO0 co n eq co_place), (wO2 n n_nodes n_kind n_pay n_name n_ways n_held n_targets n_weights), (wI g n_kind 0 12 n_fkind), (wI g n_pay 0 12 n_fpay), (wI g n_ways 0 12 n_fways), (wI g n_held 0 12 n_fheld), (wI g n_targets 0 36 n_ftargets), (wI g n_weights 0 36 n_fweights), (wI g co_place 0 12 opc_68541), (wO1 eq eq_rows eq_right ew), (wJ g eq_right 1 8 FX), (wR g eq_rows 5 8 (fun i => if i < 8 then some (rr i) else none)), (wJ g (rr 0) 1 8 (oct_68543 0)), (wJ g (rr 1) 1 8 (oct_68543 1)), (wJ g (rr 2) 1 8 (oct_68543 2)), (wJ g (rr 3) 1 8 (oct_68543 3)), (wJ g (rr 4) 1 8 (oct_68543 4)), (wJ g (rr 5) 1 8 (oct_68543 5)), (wJ g (rr 6) 1 8 (oct_68543 6)), (wJ g (rr 7) 1 8 (oct_68543 7)), (wI g pl 0 12 plf)] H ∧ va_D A [(wO10 vs vs_part vsw), (wJ g vs_part 1 12 vsp), (wO0 co n eq co_place), (wO2 n n_nodes n_kind n_pay n_name n_ways n_held n_targets n_weights), (wI g n_kind 0 12 n_fkind), (wI g n_pay 0 12 n_fpay), (wI g n_ways 0 12 n_fways), (wI g n_held 0 12 n_fheld), (wI g n_targets 0 36 n_ftargets), (wI g n_weights 0 36 n_fweights), (wI g co_place 0 12 opc_68541), (wO1 eq eq_rows eq_right ew), (wJ g eq_right 1 8 FX), (wR g eq_rows 5 8 (fun i => if i < 8 then some (rr i) else none)), (wJ g (rr 0) 1 8 (oct_68543 0)), (wJ g (rr 1) 1 8 (oct_68543 1)), (wJ g (rr 2) 1 8 (oct_68543 2)), (wJ g (rr 3) 1 8 (oct_68543 3)), (wJ g (rr 4) 1 8 (oct_68543 4)), (wJ g (rr 5) 1 8 (oct_68543 5)), (wJ g (rr 6) 1 8 (oct_68543 6)), (wJ g (rr 7) 1 8 (oct_68543 7)), (wI g pl 0 12 plf)] := ⟨_, hP, hD⟩
          have hP : va_P D vwCl [(wO10 vs vs_part vsw), (wJ g vs_part 1 12 vsp), (wO0 co n eq co_place), (wO2 n n_nodes n_kind n_pay n_name n_ways n_held n_targets n_weights), (wI g n_kind 0 12 n_fkind), (wI g n_pay 0 12 n_fpay), (wI g n_ways 0 12 n_fways), (wI g n_held 0 12 n_fheld), (wI g n_targets 0 36 n_ftargets), (wI g n_weights 0 36 n_fweights), (wI g co_place 0 12 opc_68541), (wO1 eq eq_rows eq_right ew), (wJ g eq_right 1 8 f_68721), (wR g eq_rows 5 8 (fun i => if i < 8 then some (rr i) else none)), (wJ g (rr 0) 1 8 (oct_68543 0)), (wJ g (rr 1) 1 8 (oct_68543 1)), (wJ g (rr 2) 1 8 (oct_68543 2)), (wJ g (rr 3) 1 8 (oct_68543 3)), (wJ g (rr 4) 1 8 (oct_68543 4)), (wJ g (rr 5) 1 8 (oct_68543 5)), (wJ g (rr 6) 1 8 (oct_68543 6)), (wJ g (rr 7) 1 8 (oct_68543 7)), (wI g pl 0 12 plf)] H := hP
          have hD : va_D A [(wO10 vs vs_part vsw), (wJ g vs_part 1 12 vsp), (wO0 co n eq co_place), (wO2 n n_nodes n_kind n_pay n_name n_ways n_held n_targets n_weights), (wI g n_kind 0 12 n_fkind), (wI g n_pay 0 12 n_fpay), (wI g n_ways 0 12 n_fways), (wI g n_held 0 12 n_fheld), (wI g n_targets 0 36 n_ftargets), (wI g n_weights 0 36 n_fweights), (wI g co_place 0 12 opc_68541), (wO1 eq eq_rows eq_right ew), (wJ g eq_right 1 8 f_68721), (wR g eq_rows 5 8 (fun i => if i < 8 then some (rr i) else none)), (wJ g (rr 0) 1 8 (oct_68543 0)), (wJ g (rr 1) 1 8 (oct_68543 1)), (wJ g (rr 2) 1 8 (oct_68543 2)), (wJ g (rr 3) 1 8 (oct_68543 3)), (wJ g (rr 4) 1 8 (oct_68543 4)), (wJ g (rr 5) 1 8 (oct_68543 5)), (wJ g (rr 6) 1 8 (oct_68543 6)), (wJ g (rr 7) 1 8 (oct_68543 7)), (wI g pl 0 12 plf)] := hD
          obtain ⟨v_68722, v_68722_e⟩ : ∃ y : Int32, y = x_68702 + Int32.ofInt 1 := ⟨_, rfl⟩
          have h_v_68722 : 1 ≤ (v_68722 : Int32).toInt ∧ (v_68722 : Int32).toInt ≤ 12 := by rw [v_68722_e]; exact tr_add h_68706 (⟨by decide, by decide⟩ : 1 ≤ (Int32.ofInt 1 : Int32).toInt ∧ (Int32.ofInt 1 : Int32).toInt ≤ 1) (by decide) (by decide) (by decide) (by decide)
          have q_v_68722 : v_68722.toInt = x_68702.toInt + 1 := by rw [v_68722_e]; exact tr_addE h_68706 (⟨by decide, by decide⟩ : 1 ≤ (Int32.ofInt 1 : Int32).toInt ∧ (Int32.ofInt 1 : Int32).toInt ≤ 1) (by decide) (by decide)
          refine lv_iinc (v := v_68722) (lv' := [(5, .int v_68722), (4, .int r_68540), (0, .ref co), (1, .ref pl), (2, .int p0), (3, .ref vs)]) hx hb dX0_expectMoves_61 hl (k := 0) rfl v_68722_e.symm (by decide) rfl (fun ls hl => ?_)
          refine lv_goto (tgt := 13) hx hb dX0_expectMoves_64 (by decide) ?_
          exact ih_68704 v_68722 f_68721 H _ ls (tr_w h_v_68722 (by decide) (by decide)) (by (first | (clear hw_68545 h_v_68714 c_68715_i h_68717; omega) | omega)) (hP.sub [0, 1, 2, 3, 4, 5, 6, 7, 8, 9, 10, 11, 12, 13, 14, 15, 16, 17, 18, 19, 20, 21, 22] rfl) (hD.sub [0, 1, 2, 3, 4, 5, 6, 7, 8, 9, 10, 11, 12, 13, 14, 15, 16, 17, 18, 19, 20, 21, 22] (by decide) rfl) hS (lv_sub hl [0, 1, 2, 3, 4, 5] rfl)
  exact lp_68704 13 0 ofr_68542 H _ ls (⟨by decide, by decide⟩ : 0 ≤ (0 : Int32).toInt ∧ (0 : Int32).toInt ≤ 12) (by decide) (hP.sub [0, 1, 2, 3, 4, 5, 6, 7, 8, 9, 10, 11, 12, 13, 14, 15, 16, 17, 18, 19, 20, 21, 22] rfl) (hD.sub [0, 1, 2, 3, 4, 5, 6, 7, 8, 9, 10, 11, 12, 13, 14, 15, 16, 17, 18, 19, 20, 21, 22] (by decide) rfl) hS (lv_sub hl [0, 1, 2, 3, 4, 5] rfl)
