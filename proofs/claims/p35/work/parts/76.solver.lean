theorem qw_548 : Cond.fieldLink RX6 19 "ChanceRings$Solver" "net" "LChanceRings$Net;" ∈ wsL_law := tseg_2 (by decide +kernel) (List.mem_of_getElem? (i := 61) (by decide +kernel))
theorem qw_549 : Cond.fieldLink RX6 32 "ChanceRings$Net" "nodes" "I" ∈ wsL_law := tseg_1 (by decide +kernel) (List.mem_of_getElem? (i := 55) (by decide +kernel))
theorem qw_550 : Cond.fieldLink RX6 38 "ChanceRings$Net" "held" "[I" ∈ wsL_law := tseg_1 (by decide +kernel) (List.mem_of_getElem? (i := 86) (by decide +kernel))
theorem qw_551 : Cond.fieldLink RX6 61 "ChanceRings$Net" "kind" "[I" ∈ wsL_law := tseg_1 (by decide +kernel) (List.mem_of_getElem? (i := 68) (by decide +kernel))
theorem qw_552 : Cond.fieldLink RX6 68 "ChanceRings$Net" "ways" "[I" ∈ wsL_law := tseg_1 (by decide +kernel) (List.mem_of_getElem? (i := 83) (by decide +kernel))
theorem qw_553 : Cond.fieldLink RX6 71 "ChanceRings$Values" "part" "[J" ∈ wsL_law := tseg_2 (by decide +kernel) (List.mem_of_getElem? (i := 90) (by decide +kernel))
theorem qw_554 : Cond.methodLink RX6 76 yX2_target ∈ wsL_law := tseg_3 (by decide +kernel) (List.mem_of_getElem? (i := 171) (by decide +kernel))
theorem qw_555 : Cond.methodLink RX6 64 yX6_betterWay ∈ wsL_law := tseg_3 (by decide +kernel) (List.mem_of_getElem? (i := 167) (by decide +kernel))
theorem qw_556 : Cond.instanceMethod yX6_betterWay ∈ wsL_law := tseg_3 (by decide +kernel) (List.mem_of_getElem? (i := 169) (by decide +kernel))
theorem qw_557 : Cond.selects RX6 yX6_betterWay yX6_betterWay ∈ wsL_law := List.mem_filter.mpr ⟨List.mem_append_left _ (List.mem_of_getElem? (i := 23) (by decide +kernel)), by decide +kernel⟩
theorem qw_558 : Cond.initialized RX6 ∈ wsL_law := tseg_1 (by decide +kernel) (List.mem_of_getElem? (i := 12) (by decide +kernel))
theorem qw_559 : Cond.code yX6_betterWay cX6_betterWay 9 (some .int) ∈ wsL_law := tseg_3 (by decide +kernel) (List.mem_of_getElem? (i := 170) (by decide +kernel))
theorem qw_560 : Cond.methodLink RX6 49 yX6_turnOpen ∈ wsL_law := tseg_3 (by decide +kernel) (List.mem_of_getElem? (i := 163) (by decide +kernel))
theorem qw_561 : Cond.instanceMethod yX6_turnOpen ∈ wsL_law := tseg_3 (by decide +kernel) (List.mem_of_getElem? (i := 165) (by decide +kernel))
theorem qw_562 : Cond.selects RX6 yX6_turnOpen yX6_turnOpen ∈ wsL_law := List.mem_filter.mpr ⟨List.mem_append_left _ (List.mem_of_getElem? (i := 22) (by decide +kernel)), by decide +kernel⟩
theorem qw_563 : Cond.code yX6_turnOpen cX6_turnOpen 8 (some .int) ∈ wsL_law := tseg_3 (by decide +kernel) (List.mem_of_getElem? (i := 166) (by decide +kernel))
theorem qw_564 : Cond.methodLink RX6 80 yX2_payingEnds ∈ wsL_law := tseg_3 (by decide +kernel) (List.mem_of_getElem? (i := 105) (by decide +kernel))
theorem qw_565 : Cond.fieldLink RX6 28 "ChanceRings$Solver" "course" "LChanceRings$Course;" ∈ wsL_law := tseg_2 (by decide +kernel) (List.mem_of_getElem? (i := 62) (by decide +kernel))
theorem qw_566 : Cond.methodLink RX6 88 yX0_follow ∈ wsL_law := tseg_3 (by decide +kernel) (List.mem_of_getElem? (i := 121) (by decide +kernel))
theorem qw_567 : Cond.instanceMethod yX0_follow ∈ wsL_law := tseg_3 (by decide +kernel) (List.mem_of_getElem? (i := 122) (by decide +kernel))
theorem qw_568 : Cond.selects RX0 yX0_follow yX0_follow ∈ wsL_law := tseg_3 (by decide +kernel) (List.mem_of_getElem? (i := 123) (by decide +kernel))
theorem qw_569 : Cond.code yX0_follow cX0_follow 5 (some .int) ∈ wsL_law := tseg_3 (by decide +kernel) (List.mem_of_getElem? (i := 124) (by decide +kernel))
theorem qw_570 : Cond.methodLink RX6 84 yX2_nextNodes ∈ wsL_law := tseg_3 (by decide +kernel) (List.mem_of_getElem? (i := 109) (by decide +kernel))
theorem qw_571 : Cond.methodLink RX6 41 yX6_unavoidable ∈ wsL_law := tseg_3 (by decide +kernel) (List.mem_of_getElem? (i := 101) (by decide +kernel))
theorem qw_572 : Cond.instanceMethod yX6_unavoidable ∈ wsL_law := tseg_3 (by decide +kernel) (List.mem_of_getElem? (i := 103) (by decide +kernel))
theorem qw_573 : Cond.selects RX6 yX6_unavoidable yX6_unavoidable ∈ wsL_law := List.mem_filter.mpr ⟨List.mem_append_left _ (List.mem_of_getElem? (i := 15) (by decide +kernel)), by decide +kernel⟩
theorem qw_574 : Cond.code yX6_unavoidable cX6_unavoidable 8 (some .int) ∈ wsL_law := tseg_3 (by decide +kernel) (List.mem_of_getElem? (i := 104) (by decide +kernel))
theorem qw_575 : Cond.methodLink RX6 45 yX0_expectPay ∈ wsL_law := tseg_3 (by decide +kernel) (List.mem_of_getElem? (i := 130) (by decide +kernel))
theorem qw_576 : Cond.instanceMethod yX0_expectPay ∈ wsL_law := tseg_3 (by decide +kernel) (List.mem_of_getElem? (i := 131) (by decide +kernel))
theorem qw_577 : Cond.selects RX0 yX0_expectPay yX0_expectPay ∈ wsL_law := tseg_3 (by decide +kernel) (List.mem_of_getElem? (i := 132) (by decide +kernel))
theorem qw_578 : Cond.code yX0_expectPay cX0_expectPay 8 none ∈ wsL_law := tseg_3 (by decide +kernel) (List.mem_of_getElem? (i := 133) (by decide +kernel))
theorem qw_579 : Cond.methodLink RX6 53 yX6_findLeft ∈ wsL_law := tseg_3 (by decide +kernel) (List.mem_of_getElem? (i := 97) (by decide +kernel))
theorem qw_580 : Cond.instanceMethod yX6_findLeft ∈ wsL_law := tseg_3 (by decide +kernel) (List.mem_of_getElem? (i := 98) (by decide +kernel))
theorem qw_581 : Cond.selects RX6 yX6_findLeft yX6_findLeft ∈ wsL_law := tseg_3 (by decide +kernel) (List.mem_of_getElem? (i := 99) (by decide +kernel))
theorem qw_582 : Cond.code yX6_findLeft cX6_findLeft 8 none ∈ wsL_law := tseg_3 (by decide +kernel) (List.mem_of_getElem? (i := 100) (by decide +kernel))
theorem qw_583 : Cond.methodLink RX6 57 yX6_turn ∈ wsL_law := tseg_3 (by decide +kernel) (List.mem_of_getElem? (i := 172) (by decide +kernel))
theorem qw_584 : Cond.instanceMethod yX6_turn ∈ wsL_law := tseg_3 (by decide +kernel) (List.mem_of_getElem? (i := 173) (by decide +kernel))
theorem qw_585 : Cond.selects RX6 yX6_turn yX6_turn ∈ wsL_law := tseg_3 (by decide +kernel) (List.mem_of_getElem? (i := 174) (by decide +kernel))
theorem qw_586 : Cond.code yX6_turn cX6_turn 4 (some .int) ∈ wsL_law := tseg_3 (by decide +kernel) (List.mem_of_getElem? (i := 175) (by decide +kernel))
theorem qw_587 : Cond.fieldLink RX6 9 "ChanceRings$Solver" "keep" "[I" ∈ wsL_law := tseg_2 (by decide +kernel) (List.mem_of_getElem? (i := 64) (by decide +kernel))
theorem qw_588 : Cond.methodLink RX6 128 yX2_canTake ∈ wsL_law := tseg_3 (by decide +kernel) (List.mem_of_getElem? (i := 184) (by decide +kernel))
theorem qw_589 : Cond.methodLink RX6 136 yX6_isBrought ∈ wsL_law := tseg_3 (by decide +kernel) (List.mem_of_getElem? (i := 196) (by decide +kernel))
theorem qw_590 : Cond.instanceMethod yX6_isBrought ∈ wsL_law := tseg_3 (by decide +kernel) (List.mem_of_getElem? (i := 198) (by decide +kernel))
theorem qw_591 : Cond.selects RX6 yX6_isBrought yX6_isBrought ∈ wsL_law := List.mem_filter.mpr ⟨List.mem_append_left _ (List.mem_of_getElem? (i := 27) (by decide +kernel)), by decide +kernel⟩
theorem qw_592 : Cond.code yX6_isBrought cX6_isBrought 9 (some .boolean) ∈ wsL_law := tseg_3 (by decide +kernel) (List.mem_of_getElem? (i := 199) (by decide +kernel))
theorem qw_593 : Cond.methodLink RX6 132 yX6_bringsAll ∈ wsL_law := tseg_3 (by decide +kernel) (List.mem_of_getElem? (i := 192) (by decide +kernel))
theorem qw_594 : Cond.instanceMethod yX6_bringsAll ∈ wsL_law := tseg_3 (by decide +kernel) (List.mem_of_getElem? (i := 194) (by decide +kernel))
theorem qw_595 : Cond.selects RX6 yX6_bringsAll yX6_bringsAll ∈ wsL_law := List.mem_filter.mpr ⟨List.mem_append_left _ (List.mem_of_getElem? (i := 26) (by decide +kernel)), by decide +kernel⟩
theorem qw_596 : Cond.code yX6_bringsAll cX6_bringsAll 6 (some .boolean) ∈ wsL_law := tseg_3 (by decide +kernel) (List.mem_of_getElem? (i := 195) (by decide +kernel))
theorem qw_597 : Cond.methodLink RX6 117 yX6_keepEven ∈ wsL_law := tseg_3 (by decide +kernel) (List.mem_of_getElem? (i := 180) (by decide +kernel))
theorem qw_598 : Cond.instanceMethod yX6_keepEven ∈ wsL_law := tseg_3 (by decide +kernel) (List.mem_of_getElem? (i := 182) (by decide +kernel))
theorem qw_599 : Cond.selects RX6 yX6_keepEven yX6_keepEven ∈ wsL_law := List.mem_filter.mpr ⟨List.mem_append_left _ (List.mem_of_getElem? (i := 24) (by decide +kernel)), by decide +kernel⟩
theorem qw_600 : Cond.code yX6_keepEven cX6_keepEven 4 none ∈ wsL_law := tseg_3 (by decide +kernel) (List.mem_of_getElem? (i := 183) (by decide +kernel))
theorem qw_601 : Cond.methodLink RX6 124 yX6_goodOf ∈ wsL_law := tseg_3 (by decide +kernel) (List.mem_of_getElem? (i := 188) (by decide +kernel))
theorem qw_602 : Cond.instanceMethod yX6_goodOf ∈ wsL_law := tseg_3 (by decide +kernel) (List.mem_of_getElem? (i := 190) (by decide +kernel))
theorem qw_603 : Cond.selects RX6 yX6_goodOf yX6_goodOf ∈ wsL_law := List.mem_filter.mpr ⟨List.mem_append_left _ (List.mem_of_getElem? (i := 25) (by decide +kernel)), by decide +kernel⟩
theorem qw_604 : Cond.code yX6_goodOf cX6_goodOf 6 (some .int) ∈ wsL_law := tseg_3 (by decide +kernel) (List.mem_of_getElem? (i := 191) (by decide +kernel))
theorem qw_605 : Cond.methodLink RX6 121 yX6_lowest ∈ wsL_law := tseg_3 (by decide +kernel) (List.mem_of_getElem? (i := 185) (by decide +kernel))
theorem qw_606 : Cond.static yX6_lowest ∈ wsL_law := tseg_3 (by decide +kernel) (List.mem_of_getElem? (i := 186) (by decide +kernel))
theorem qw_607 : Cond.code yX6_lowest cX6_lowest 2 (some .int) ∈ wsL_law := tseg_3 (by decide +kernel) (List.mem_of_getElem? (i := 187) (by decide +kernel))
theorem qw_608 : Cond.methodLink RX6 114 yX2_together ∈ wsL_law := tseg_5 (by decide +kernel) (List.mem_of_getElem? (i := 110) (by decide +kernel))
theorem qw_609 : Cond.methodLink RX6 111 yX2_weight ∈ wsL_law := tseg_5 (by decide +kernel) (List.mem_of_getElem? (i := 109) (by decide +kernel))
theorem qw_610 : Cond.constantLong RX6 109 (12) ∈ wsL_law := tseg_5 (by decide +kernel) (List.mem_of_getElem? (i := 108) (by decide +kernel))
theorem qw_611 : Cond.fieldLink RX6 92 "ChanceRings$Values" "whole" "J" ∈ wsL_law := tseg_2 (by decide +kernel) (List.mem_of_getElem? (i := 94) (by decide +kernel))
theorem qw_612 : Cond.fieldLink RX6 15 "ChanceRings$Solver" "scaled" "[J" ∈ wsL_law := tseg_2 (by decide +kernel) (List.mem_of_getElem? (i := 65) (by decide +kernel))
theorem qw_613 : Cond.methodLink RX6 103 arraycopyName ∈ wsL_law := tseg_5 (by decide +kernel) (List.mem_of_getElem? (i := 111) (by decide +kernel))
theorem qw_614 : Cond.fieldLink RX6 96 "ChanceRings$Net" "pay" "[I" ∈ wsL_law := tseg_1 (by decide +kernel) (List.mem_of_getElem? (i := 75) (by decide +kernel))
theorem qw_615 : Cond.methodLink RX6 99 yX6_oneMoveMore ∈ wsL_law := tseg_5 (by decide +kernel) (List.mem_of_getElem? (i := 104) (by decide +kernel))
theorem qw_616 : Cond.instanceMethod yX6_oneMoveMore ∈ wsL_law := tseg_5 (by decide +kernel) (List.mem_of_getElem? (i := 106) (by decide +kernel))
theorem qw_617 : Cond.selects RX6 yX6_oneMoveMore yX6_oneMoveMore ∈ wsL_law := List.mem_filter.mpr ⟨List.mem_append_left _ (List.mem_of_getElem? (i := 47) (by decide +kernel)), by decide +kernel⟩
theorem qw_618 : Cond.code yX6_oneMoveMore cX6_oneMoveMore 6 (some .long) ∈ wsL_law := tseg_5 (by decide +kernel) (List.mem_of_getElem? (i := 107) (by decide +kernel))
theorem dX6_betterWay_0 : decode cX6_betterWay 0 = .ok (.aload_n 0, 1) := by decide +kernel
theorem dX6_betterWay_1 : decode cX6_betterWay 1 = .ok (.getfield 19, 3) := by decide +kernel
theorem dX6_betterWay_4 : decode cX6_betterWay 4 = .ok (.getfield 61, 3) := by decide +kernel
theorem dX6_betterWay_7 : decode cX6_betterWay 7 = .ok (.iload_n 1, 1) := by decide +kernel
theorem dX6_betterWay_8 : decode cX6_betterWay 8 = .ok (.iaload, 1) := by decide +kernel
theorem dX6_betterWay_9 : decode cX6_betterWay 9 = .ok (.iconst 1, 1) := by decide +kernel
theorem dX6_betterWay_10 : decode cX6_betterWay 10 = .ok (.if_icmp .ne 7, 3) := by decide +kernel
theorem dX6_betterWay_13 : decode cX6_betterWay 13 = .ok (.iconst 1, 1) := by decide +kernel
theorem dX6_betterWay_14 : decode cX6_betterWay 14 = .ok (.goto 4, 3) := by decide +kernel
theorem dX6_betterWay_17 : decode cX6_betterWay 17 = .ok (.iconst (-1), 1) := by decide +kernel
theorem dX6_betterWay_18 : decode cX6_betterWay 18 = .ok (.istore 4, 2) := by decide +kernel
theorem dX6_betterWay_20 : decode cX6_betterWay 20 = .ok (.iload_n 2, 1) := by decide +kernel
theorem dX6_betterWay_21 : decode cX6_betterWay 21 = .ok (.istore 5, 2) := by decide +kernel
theorem dX6_betterWay_23 : decode cX6_betterWay 23 = .ok (.iconst 0, 1) := by decide +kernel
theorem dX6_betterWay_24 : decode cX6_betterWay 24 = .ok (.istore 6, 2) := by decide +kernel
theorem dX6_betterWay_26 : decode cX6_betterWay 26 = .ok (.iload 6, 2) := by decide +kernel
theorem dX6_betterWay_28 : decode cX6_betterWay 28 = .ok (.aload_n 0, 1) := by decide +kernel
theorem dX6_betterWay_29 : decode cX6_betterWay 29 = .ok (.getfield 19, 3) := by decide +kernel
theorem dX6_betterWay_32 : decode cX6_betterWay 32 = .ok (.getfield 68, 3) := by decide +kernel
theorem dX6_betterWay_35 : decode cX6_betterWay 35 = .ok (.iload_n 1, 1) := by decide +kernel
theorem dX6_betterWay_36 : decode cX6_betterWay 36 = .ok (.iaload, 1) := by decide +kernel
theorem dX6_betterWay_37 : decode cX6_betterWay 37 = .ok (.if_icmp .ge 57, 3) := by decide +kernel
theorem dX6_betterWay_40 : decode cX6_betterWay 40 = .ok (.aload_n 3, 1) := by decide +kernel
theorem dX6_betterWay_41 : decode cX6_betterWay 41 = .ok (.getfield 71, 3) := by decide +kernel
theorem dX6_betterWay_44 : decode cX6_betterWay 44 = .ok (.aload_n 0, 1) := by decide +kernel
theorem dX6_betterWay_45 : decode cX6_betterWay 45 = .ok (.getfield 19, 3) := by decide +kernel
theorem dX6_betterWay_48 : decode cX6_betterWay 48 = .ok (.iload_n 1, 1) := by decide +kernel
theorem dX6_betterWay_49 : decode cX6_betterWay 49 = .ok (.iload 6, 2) := by decide +kernel
theorem dX6_betterWay_51 : decode cX6_betterWay 51 = .ok (.invokevirtual 76, 3) := by decide +kernel
theorem dX6_betterWay_54 : decode cX6_betterWay 54 = .ok (.laload, 1) := by decide +kernel
theorem dX6_betterWay_55 : decode cX6_betterWay 55 = .ok (.aload_n 3, 1) := by decide +kernel
theorem dX6_betterWay_56 : decode cX6_betterWay 56 = .ok (.getfield 71, 3) := by decide +kernel
theorem dX6_betterWay_59 : decode cX6_betterWay 59 = .ok (.aload_n 0, 1) := by decide +kernel
theorem dX6_betterWay_60 : decode cX6_betterWay 60 = .ok (.getfield 19, 3) := by decide +kernel
theorem dX6_betterWay_63 : decode cX6_betterWay 63 = .ok (.iload_n 1, 1) := by decide +kernel
theorem dX6_betterWay_64 : decode cX6_betterWay 64 = .ok (.iload 5, 2) := by decide +kernel
theorem dX6_betterWay_66 : decode cX6_betterWay 66 = .ok (.invokevirtual 76, 3) := by decide +kernel
theorem dX6_betterWay_69 : decode cX6_betterWay 69 = .ok (.laload, 1) := by decide +kernel
theorem dX6_betterWay_70 : decode cX6_betterWay 70 = .ok (.lsub, 1) := by decide +kernel
theorem dX6_betterWay_71 : decode cX6_betterWay 71 = .ok (.lstore 7, 2) := by decide +kernel
theorem dX6_betterWay_73 : decode cX6_betterWay 73 = .ok (.iload 4, 2) := by decide +kernel
theorem dX6_betterWay_75 : decode cX6_betterWay 75 = .ok (.i2l, 1) := by decide +kernel
theorem dX6_betterWay_76 : decode cX6_betterWay 76 = .ok (.lload 7, 2) := by decide +kernel
theorem dX6_betterWay_78 : decode cX6_betterWay 78 = .ok (.lmul, 1) := by decide +kernel
theorem dX6_betterWay_79 : decode cX6_betterWay 79 = .ok (.lconst 0, 1) := by decide +kernel
theorem dX6_betterWay_80 : decode cX6_betterWay 80 = .ok (.lcmp, 1) := by decide +kernel
theorem dX6_betterWay_81 : decode cX6_betterWay 81 = .ok (.ifCond .le 7, 3) := by decide +kernel
theorem dX6_betterWay_84 : decode cX6_betterWay 84 = .ok (.iload 6, 2) := by decide +kernel
theorem dX6_betterWay_86 : decode cX6_betterWay 86 = .ok (.istore 5, 2) := by decide +kernel
theorem dX6_betterWay_88 : decode cX6_betterWay 88 = .ok (.iinc 6 1, 3) := by decide +kernel
theorem dX6_betterWay_91 : decode cX6_betterWay 91 = .ok (.goto (-65), 3) := by decide +kernel
theorem dX6_betterWay_94 : decode cX6_betterWay 94 = .ok (.iload 5, 2) := by decide +kernel
theorem dX6_betterWay_96 : decode cX6_betterWay 96 = .ok (.ireturn, 1) := by decide +kernel
theorem dX6_bringsAll_0 : decode cX6_bringsAll 0 = .ok (.aload_n 0, 1) := by decide +kernel
theorem dX6_bringsAll_1 : decode cX6_bringsAll 1 = .ok (.getfield 19, 3) := by decide +kernel
theorem dX6_bringsAll_4 : decode cX6_bringsAll 4 = .ok (.invokevirtual 80, 3) := by decide +kernel
theorem dX6_bringsAll_7 : decode cX6_bringsAll 7 = .ok (.istore_n 2, 1) := by decide +kernel
theorem dX6_bringsAll_8 : decode cX6_bringsAll 8 = .ok (.iconst (-1), 1) := by decide +kernel
theorem dX6_bringsAll_9 : decode cX6_bringsAll 9 = .ok (.istore_n 3, 1) := by decide +kernel
theorem dX6_bringsAll_10 : decode cX6_bringsAll 10 = .ok (.iconst 0, 1) := by decide +kernel
theorem dX6_bringsAll_11 : decode cX6_bringsAll 11 = .ok (.istore 4, 2) := by decide +kernel
theorem dX6_bringsAll_13 : decode cX6_bringsAll 13 = .ok (.iload 4, 2) := by decide +kernel
theorem dX6_bringsAll_15 : decode cX6_bringsAll 15 = .ok (.bipush 12, 2) := by decide +kernel
theorem dX6_bringsAll_17 : decode cX6_bringsAll 17 = .ok (.if_icmp .ge 67, 3) := by decide +kernel
theorem dX6_bringsAll_20 : decode cX6_bringsAll 20 = .ok (.iload_n 2, 1) := by decide +kernel
theorem dX6_bringsAll_21 : decode cX6_bringsAll 21 = .ok (.iload_n 3, 1) := by decide +kernel
theorem dX6_bringsAll_22 : decode cX6_bringsAll 22 = .ok (.if_icmp .eq 62, 3) := by decide +kernel
theorem dX6_bringsAll_25 : decode cX6_bringsAll 25 = .ok (.iload_n 2, 1) := by decide +kernel
theorem dX6_bringsAll_26 : decode cX6_bringsAll 26 = .ok (.istore_n 3, 1) := by decide +kernel
theorem dX6_bringsAll_27 : decode cX6_bringsAll 27 = .ok (.iconst 0, 1) := by decide +kernel
theorem dX6_bringsAll_28 : decode cX6_bringsAll 28 = .ok (.istore 5, 2) := by decide +kernel
theorem dX6_bringsAll_30 : decode cX6_bringsAll 30 = .ok (.iload 5, 2) := by decide +kernel
theorem dX6_bringsAll_32 : decode cX6_bringsAll 32 = .ok (.aload_n 0, 1) := by decide +kernel
theorem dX6_bringsAll_33 : decode cX6_bringsAll 33 = .ok (.getfield 19, 3) := by decide +kernel
theorem dX6_bringsAll_36 : decode cX6_bringsAll 36 = .ok (.getfield 32, 3) := by decide +kernel
theorem dX6_bringsAll_39 : decode cX6_bringsAll 39 = .ok (.if_icmp .ge 39, 3) := by decide +kernel
theorem dX6_bringsAll_42 : decode cX6_bringsAll 42 = .ok (.aload_n 1, 1) := by decide +kernel
theorem dX6_bringsAll_43 : decode cX6_bringsAll 43 = .ok (.getfield 71, 3) := by decide +kernel
theorem dX6_bringsAll_46 : decode cX6_bringsAll 46 = .ok (.iload 5, 2) := by decide +kernel
theorem dX6_bringsAll_48 : decode cX6_bringsAll 48 = .ok (.laload, 1) := by decide +kernel
theorem dX6_bringsAll_49 : decode cX6_bringsAll 49 = .ok (.lconst 0, 1) := by decide +kernel
theorem dX6_bringsAll_50 : decode cX6_bringsAll 50 = .ok (.lcmp, 1) := by decide +kernel
theorem dX6_bringsAll_51 : decode cX6_bringsAll 51 = .ok (.ifCond .le 21, 3) := by decide +kernel
theorem dX6_bringsAll_54 : decode cX6_bringsAll 54 = .ok (.aload_n 0, 1) := by decide +kernel
theorem dX6_bringsAll_55 : decode cX6_bringsAll 55 = .ok (.iload 5, 2) := by decide +kernel
theorem dX6_bringsAll_57 : decode cX6_bringsAll 57 = .ok (.iload_n 2, 1) := by decide +kernel
theorem dX6_bringsAll_58 : decode cX6_bringsAll 58 = .ok (.aload_n 1, 1) := by decide +kernel
theorem dX6_bringsAll_59 : decode cX6_bringsAll 59 = .ok (.invokevirtual 136, 3) := by decide +kernel
theorem dX6_bringsAll_62 : decode cX6_bringsAll 62 = .ok (.ifCond .eq 10, 3) := by decide +kernel
theorem dX6_bringsAll_65 : decode cX6_bringsAll 65 = .ok (.iload_n 2, 1) := by decide +kernel
theorem dX6_bringsAll_66 : decode cX6_bringsAll 66 = .ok (.iconst 1, 1) := by decide +kernel
theorem dX6_bringsAll_67 : decode cX6_bringsAll 67 = .ok (.iload 5, 2) := by decide +kernel
theorem dX6_bringsAll_69 : decode cX6_bringsAll 69 = .ok (.ishl, 1) := by decide +kernel
theorem dX6_bringsAll_70 : decode cX6_bringsAll 70 = .ok (.ior, 1) := by decide +kernel
theorem dX6_bringsAll_71 : decode cX6_bringsAll 71 = .ok (.istore_n 2, 1) := by decide +kernel
theorem dX6_bringsAll_72 : decode cX6_bringsAll 72 = .ok (.iinc 5 1, 3) := by decide +kernel
theorem dX6_bringsAll_75 : decode cX6_bringsAll 75 = .ok (.goto (-45), 3) := by decide +kernel
theorem dX6_bringsAll_78 : decode cX6_bringsAll 78 = .ok (.iinc 4 1, 3) := by decide +kernel
theorem dX6_bringsAll_81 : decode cX6_bringsAll 81 = .ok (.goto (-68), 3) := by decide +kernel
theorem dX6_bringsAll_84 : decode cX6_bringsAll 84 = .ok (.iconst 0, 1) := by decide +kernel
theorem dX6_bringsAll_85 : decode cX6_bringsAll 85 = .ok (.istore 4, 2) := by decide +kernel
theorem dX6_bringsAll_87 : decode cX6_bringsAll 87 = .ok (.iload 4, 2) := by decide +kernel
theorem dX6_bringsAll_89 : decode cX6_bringsAll 89 = .ok (.aload_n 0, 1) := by decide +kernel
theorem dX6_bringsAll_90 : decode cX6_bringsAll 90 = .ok (.getfield 19, 3) := by decide +kernel
theorem dX6_bringsAll_93 : decode cX6_bringsAll 93 = .ok (.getfield 32, 3) := by decide +kernel
theorem dX6_bringsAll_96 : decode cX6_bringsAll 96 = .ok (.if_icmp .ge 32, 3) := by decide +kernel
theorem dX6_bringsAll_99 : decode cX6_bringsAll 99 = .ok (.aload_n 1, 1) := by decide +kernel
theorem dX6_bringsAll_100 : decode cX6_bringsAll 100 = .ok (.getfield 71, 3) := by decide +kernel
theorem dX6_bringsAll_103 : decode cX6_bringsAll 103 = .ok (.iload 4, 2) := by decide +kernel
theorem dX6_bringsAll_105 : decode cX6_bringsAll 105 = .ok (.laload, 1) := by decide +kernel
theorem dX6_bringsAll_106 : decode cX6_bringsAll 106 = .ok (.lconst 0, 1) := by decide +kernel
theorem dX6_bringsAll_107 : decode cX6_bringsAll 107 = .ok (.lcmp, 1) := by decide +kernel
theorem dX6_bringsAll_108 : decode cX6_bringsAll 108 = .ok (.ifCond .le 14, 3) := by decide +kernel
theorem dX6_bringsAll_111 : decode cX6_bringsAll 111 = .ok (.iload_n 2, 1) := by decide +kernel
theorem dX6_bringsAll_112 : decode cX6_bringsAll 112 = .ok (.iload 4, 2) := by decide +kernel
theorem dX6_bringsAll_114 : decode cX6_bringsAll 114 = .ok (.ishr, 1) := by decide +kernel
theorem dX6_bringsAll_115 : decode cX6_bringsAll 115 = .ok (.iconst 1, 1) := by decide +kernel
theorem dX6_bringsAll_116 : decode cX6_bringsAll 116 = .ok (.iand, 1) := by decide +kernel
theorem dX6_bringsAll_117 : decode cX6_bringsAll 117 = .ok (.ifCond .ne 5, 3) := by decide +kernel
theorem dX6_bringsAll_120 : decode cX6_bringsAll 120 = .ok (.iconst 0, 1) := by decide +kernel
theorem dX6_bringsAll_121 : decode cX6_bringsAll 121 = .ok (.ireturn, 1) := by decide +kernel
theorem dX6_bringsAll_122 : decode cX6_bringsAll 122 = .ok (.iinc 4 1, 3) := by decide +kernel
theorem dX6_bringsAll_125 : decode cX6_bringsAll 125 = .ok (.goto (-38), 3) := by decide +kernel
theorem dX6_bringsAll_128 : decode cX6_bringsAll 128 = .ok (.iconst 1, 1) := by decide +kernel
theorem dX6_bringsAll_129 : decode cX6_bringsAll 129 = .ok (.ireturn, 1) := by decide +kernel
theorem dX6_findBest_0 : decode cX6_findBest 0 = .ok (.aload_n 0, 1) := by decide +kernel
theorem dX6_findBest_1 : decode cX6_findBest 1 = .ok (.aload_n 1, 1) := by decide +kernel
theorem dX6_findBest_2 : decode cX6_findBest 2 = .ok (.invokevirtual 117, 3) := by decide +kernel
theorem dX6_findBest_5 : decode cX6_findBest 5 = .ok (.iconst 0, 1) := by decide +kernel
theorem dX6_findBest_6 : decode cX6_findBest 6 = .ok (.istore_n 3, 1) := by decide +kernel
theorem dX6_findBest_7 : decode cX6_findBest 7 = .ok (.iload_n 3, 1) := by decide +kernel
theorem dX6_findBest_8 : decode cX6_findBest 8 = .ok (.aload_n 0, 1) := by decide +kernel
theorem dX6_findBest_9 : decode cX6_findBest 9 = .ok (.getfield 19, 3) := by decide +kernel
theorem dX6_findBest_12 : decode cX6_findBest 12 = .ok (.getfield 32, 3) := by decide +kernel
theorem dX6_findBest_15 : decode cX6_findBest 15 = .ok (.if_icmp .ge 73, 3) := by decide +kernel
theorem dX6_findBest_18 : decode cX6_findBest 18 = .ok (.aload_n 0, 1) := by decide +kernel
theorem dX6_findBest_19 : decode cX6_findBest 19 = .ok (.getfield 19, 3) := by decide +kernel
theorem dX6_findBest_22 : decode cX6_findBest 22 = .ok (.getfield 61, 3) := by decide +kernel
theorem dX6_findBest_25 : decode cX6_findBest 25 = .ok (.iload_n 3, 1) := by decide +kernel
theorem dX6_findBest_26 : decode cX6_findBest 26 = .ok (.iaload, 1) := by decide +kernel
theorem dX6_findBest_27 : decode cX6_findBest 27 = .ok (.iconst 2, 1) := by decide +kernel
theorem dX6_findBest_28 : decode cX6_findBest 28 = .ok (.if_icmp .ne 18, 3) := by decide +kernel
theorem dX6_findBest_31 : decode cX6_findBest 31 = .ok (.aload_n 2, 1) := by decide +kernel
theorem dX6_findBest_32 : decode cX6_findBest 32 = .ok (.iload_n 3, 1) := by decide +kernel
theorem dX6_findBest_33 : decode cX6_findBest 33 = .ok (.aload_n 0, 1) := by decide +kernel
theorem dX6_findBest_34 : decode cX6_findBest 34 = .ok (.getfield 9, 3) := by decide +kernel
theorem dX6_findBest_37 : decode cX6_findBest 37 = .ok (.iload_n 3, 1) := by decide +kernel
theorem dX6_findBest_38 : decode cX6_findBest 38 = .ok (.iaload, 1) := by decide +kernel
theorem dX6_findBest_39 : decode cX6_findBest 39 = .ok (.invokestatic 121, 3) := by decide +kernel
theorem dX6_findBest_42 : decode cX6_findBest 42 = .ok (.iastore, 1) := by decide +kernel
theorem dX6_findBest_43 : decode cX6_findBest 43 = .ok (.goto 39, 3) := by decide +kernel
theorem dX6_findBest_46 : decode cX6_findBest 46 = .ok (.aload_n 0, 1) := by decide +kernel
theorem dX6_findBest_47 : decode cX6_findBest 47 = .ok (.getfield 19, 3) := by decide +kernel
theorem dX6_findBest_50 : decode cX6_findBest 50 = .ok (.getfield 61, 3) := by decide +kernel
theorem dX6_findBest_53 : decode cX6_findBest 53 = .ok (.iload_n 3, 1) := by decide +kernel
theorem dX6_findBest_54 : decode cX6_findBest 54 = .ok (.iaload, 1) := by decide +kernel
theorem dX6_findBest_55 : decode cX6_findBest 55 = .ok (.iconst 1, 1) := by decide +kernel
theorem dX6_findBest_56 : decode cX6_findBest 56 = .ok (.if_icmp .ne 26, 3) := by decide +kernel
theorem dX6_findBest_59 : decode cX6_findBest 59 = .ok (.aload_n 2, 1) := by decide +kernel
theorem dX6_findBest_60 : decode cX6_findBest 60 = .ok (.iload_n 3, 1) := by decide +kernel
theorem dX6_findBest_61 : decode cX6_findBest 61 = .ok (.aload_n 0, 1) := by decide +kernel
theorem dX6_findBest_62 : decode cX6_findBest 62 = .ok (.iload_n 3, 1) := by decide +kernel
theorem dX6_findBest_63 : decode cX6_findBest 63 = .ok (.aload_n 1, 1) := by decide +kernel
theorem dX6_findBest_64 : decode cX6_findBest 64 = .ok (.invokevirtual 124, 3) := by decide +kernel
theorem dX6_findBest_67 : decode cX6_findBest 67 = .ok (.invokestatic 121, 3) := by decide +kernel
theorem dX6_findBest_70 : decode cX6_findBest 70 = .ok (.iastore, 1) := by decide +kernel
theorem dX6_findBest_71 : decode cX6_findBest 71 = .ok (.aload_n 0, 1) := by decide +kernel
theorem dX6_findBest_72 : decode cX6_findBest 72 = .ok (.getfield 9, 3) := by decide +kernel
theorem dX6_findBest_75 : decode cX6_findBest 75 = .ok (.iload_n 3, 1) := by decide +kernel
theorem dX6_findBest_76 : decode cX6_findBest 76 = .ok (.iconst 1, 1) := by decide +kernel
theorem dX6_findBest_77 : decode cX6_findBest 77 = .ok (.aload_n 2, 1) := by decide +kernel
theorem dX6_findBest_78 : decode cX6_findBest 78 = .ok (.iload_n 3, 1) := by decide +kernel
theorem dX6_findBest_79 : decode cX6_findBest 79 = .ok (.iaload, 1) := by decide +kernel
theorem dX6_findBest_80 : decode cX6_findBest 80 = .ok (.ishl, 1) := by decide +kernel
theorem dX6_findBest_81 : decode cX6_findBest 81 = .ok (.iastore, 1) := by decide +kernel
theorem dX6_findBest_82 : decode cX6_findBest 82 = .ok (.iinc 3 1, 3) := by decide +kernel
theorem dX6_findBest_85 : decode cX6_findBest 85 = .ok (.goto (-78), 3) := by decide +kernel
theorem dX6_findBest_88 : decode cX6_findBest 88 = .ok (.return_, 1) := by decide +kernel
theorem dX6_findLeft_0 : decode cX6_findLeft 0 = .ok (.aload_n 0, 1) := by decide +kernel
theorem dX6_findLeft_1 : decode cX6_findLeft 1 = .ok (.aload_n 1, 1) := by decide +kernel
theorem dX6_findLeft_2 : decode cX6_findLeft 2 = .ok (.invokevirtual 41, 3) := by decide +kernel
theorem dX6_findLeft_5 : decode cX6_findLeft 5 = .ok (.istore 5, 2) := by decide +kernel
theorem dX6_findLeft_7 : decode cX6_findLeft 7 = .ok (.iconst 1, 1) := by decide +kernel
theorem dX6_findLeft_8 : decode cX6_findLeft 8 = .ok (.istore 6, 2) := by decide +kernel
theorem dX6_findLeft_10 : decode cX6_findLeft 10 = .ok (.iconst 0, 1) := by decide +kernel
theorem dX6_findLeft_11 : decode cX6_findLeft 11 = .ok (.istore 7, 2) := by decide +kernel
theorem dX6_findLeft_13 : decode cX6_findLeft 13 = .ok (.iload 6, 2) := by decide +kernel
theorem dX6_findLeft_15 : decode cX6_findLeft 15 = .ok (.ifCond .eq 51, 3) := by decide +kernel
theorem dX6_findLeft_18 : decode cX6_findLeft 18 = .ok (.iload 7, 2) := by decide +kernel
theorem dX6_findLeft_20 : decode cX6_findLeft 20 = .ok (.sipush 6561, 3) := by decide +kernel
theorem dX6_findLeft_23 : decode cX6_findLeft 23 = .ok (.if_icmp .ge 43, 3) := by decide +kernel
theorem dX6_findLeft_26 : decode cX6_findLeft 26 = .ok (.aload_n 0, 1) := by decide +kernel
theorem dX6_findLeft_27 : decode cX6_findLeft 27 = .ok (.getfield 28, 3) := by decide +kernel
theorem dX6_findLeft_30 : decode cX6_findLeft 30 = .ok (.aload_n 1, 1) := by decide +kernel
theorem dX6_findLeft_31 : decode cX6_findLeft 31 = .ok (.iload 5, 2) := by decide +kernel
theorem dX6_findLeft_33 : decode cX6_findLeft 33 = .ok (.iload_n 2, 1) := by decide +kernel
theorem dX6_findLeft_34 : decode cX6_findLeft 34 = .ok (.iload_n 3, 1) := by decide +kernel
theorem dX6_findLeft_35 : decode cX6_findLeft 35 = .ok (.aload 4, 2) := by decide +kernel
theorem dX6_findLeft_37 : decode cX6_findLeft 37 = .ok (.invokevirtual 45, 3) := by decide +kernel
theorem dX6_findLeft_40 : decode cX6_findLeft 40 = .ok (.aload_n 0, 1) := by decide +kernel
theorem dX6_findLeft_41 : decode cX6_findLeft 41 = .ok (.iconst 2, 1) := by decide +kernel
theorem dX6_findLeft_42 : decode cX6_findLeft 42 = .ok (.aload_n 1, 1) := by decide +kernel
theorem dX6_findLeft_43 : decode cX6_findLeft 43 = .ok (.aload 4, 2) := by decide +kernel
theorem dX6_findLeft_45 : decode cX6_findLeft 45 = .ok (.iload 5, 2) := by decide +kernel
theorem dX6_findLeft_47 : decode cX6_findLeft 47 = .ok (.invokevirtual 49, 3) := by decide +kernel
theorem dX6_findLeft_50 : decode cX6_findLeft 50 = .ok (.ifCond .le 7, 3) := by decide +kernel
theorem dX6_findLeft_53 : decode cX6_findLeft 53 = .ok (.iconst 1, 1) := by decide +kernel
theorem dX6_findLeft_54 : decode cX6_findLeft 54 = .ok (.goto 4, 3) := by decide +kernel
theorem dX6_findLeft_57 : decode cX6_findLeft 57 = .ok (.iconst 0, 1) := by decide +kernel
theorem dX6_findLeft_58 : decode cX6_findLeft 58 = .ok (.istore 6, 2) := by decide +kernel
theorem dX6_findLeft_60 : decode cX6_findLeft 60 = .ok (.iinc 7 1, 3) := by decide +kernel
theorem dX6_findLeft_63 : decode cX6_findLeft 63 = .ok (.goto (-50), 3) := by decide +kernel
theorem dX6_findLeft_66 : decode cX6_findLeft 66 = .ok (.return_, 1) := by decide +kernel
theorem dX6_findWithin_0 : decode cX6_findWithin 0 = .ok (.aload_n 2, 1) := by decide +kernel
theorem dX6_findWithin_1 : decode cX6_findWithin 1 = .ok (.lconst 1, 1) := by decide +kernel
theorem dX6_findWithin_2 : decode cX6_findWithin 2 = .ok (.putfield 92, 3) := by decide +kernel
theorem dX6_findWithin_5 : decode cX6_findWithin 5 = .ok (.iconst 0, 1) := by decide +kernel
theorem dX6_findWithin_6 : decode cX6_findWithin 6 = .ok (.istore_n 3, 1) := by decide +kernel
theorem dX6_findWithin_7 : decode cX6_findWithin 7 = .ok (.iload_n 3, 1) := by decide +kernel
theorem dX6_findWithin_8 : decode cX6_findWithin 8 = .ok (.aload_n 0, 1) := by decide +kernel
theorem dX6_findWithin_9 : decode cX6_findWithin 9 = .ok (.getfield 19, 3) := by decide +kernel
theorem dX6_findWithin_12 : decode cX6_findWithin 12 = .ok (.getfield 32, 3) := by decide +kernel
theorem dX6_findWithin_15 : decode cX6_findWithin 15 = .ok (.if_icmp .ge 41, 3) := by decide +kernel
theorem dX6_findWithin_18 : decode cX6_findWithin 18 = .ok (.aload_n 2, 1) := by decide +kernel
theorem dX6_findWithin_19 : decode cX6_findWithin 19 = .ok (.getfield 71, 3) := by decide +kernel
theorem dX6_findWithin_22 : decode cX6_findWithin 22 = .ok (.iload_n 3, 1) := by decide +kernel
theorem dX6_findWithin_23 : decode cX6_findWithin 23 = .ok (.aload_n 0, 1) := by decide +kernel
theorem dX6_findWithin_24 : decode cX6_findWithin 24 = .ok (.getfield 19, 3) := by decide +kernel
theorem dX6_findWithin_27 : decode cX6_findWithin 27 = .ok (.getfield 61, 3) := by decide +kernel
theorem dX6_findWithin_30 : decode cX6_findWithin 30 = .ok (.iload_n 3, 1) := by decide +kernel
theorem dX6_findWithin_31 : decode cX6_findWithin 31 = .ok (.iaload, 1) := by decide +kernel
theorem dX6_findWithin_32 : decode cX6_findWithin 32 = .ok (.ifCond .ne 16, 3) := by decide +kernel
theorem dX6_findWithin_35 : decode cX6_findWithin 35 = .ok (.aload_n 0, 1) := by decide +kernel
theorem dX6_findWithin_36 : decode cX6_findWithin 36 = .ok (.getfield 19, 3) := by decide +kernel
theorem dX6_findWithin_39 : decode cX6_findWithin 39 = .ok (.getfield 96, 3) := by decide +kernel
theorem dX6_findWithin_42 : decode cX6_findWithin 42 = .ok (.iload_n 3, 1) := by decide +kernel
theorem dX6_findWithin_43 : decode cX6_findWithin 43 = .ok (.iaload, 1) := by decide +kernel
theorem dX6_findWithin_44 : decode cX6_findWithin 44 = .ok (.i2l, 1) := by decide +kernel
theorem dX6_findWithin_45 : decode cX6_findWithin 45 = .ok (.goto 4, 3) := by decide +kernel
theorem dX6_findWithin_48 : decode cX6_findWithin 48 = .ok (.lconst 0, 1) := by decide +kernel
theorem dX6_findWithin_49 : decode cX6_findWithin 49 = .ok (.lastore, 1) := by decide +kernel
theorem dX6_findWithin_50 : decode cX6_findWithin 50 = .ok (.iinc 3 1, 3) := by decide +kernel
theorem dX6_findWithin_53 : decode cX6_findWithin 53 = .ok (.goto (-46), 3) := by decide +kernel
theorem dX6_findWithin_56 : decode cX6_findWithin 56 = .ok (.iconst 0, 1) := by decide +kernel
theorem dX6_findWithin_57 : decode cX6_findWithin 57 = .ok (.istore_n 3, 1) := by decide +kernel
theorem dX6_findWithin_58 : decode cX6_findWithin 58 = .ok (.iload_n 3, 1) := by decide +kernel
theorem dX6_findWithin_59 : decode cX6_findWithin 59 = .ok (.iload_n 1, 1) := by decide +kernel
theorem dX6_findWithin_60 : decode cX6_findWithin 60 = .ok (.if_icmp .ge 71, 3) := by decide +kernel
theorem dX6_findWithin_63 : decode cX6_findWithin 63 = .ok (.iconst 0, 1) := by decide +kernel
theorem dX6_findWithin_64 : decode cX6_findWithin 64 = .ok (.istore 4, 2) := by decide +kernel
theorem dX6_findWithin_66 : decode cX6_findWithin 66 = .ok (.iload 4, 2) := by decide +kernel
theorem dX6_findWithin_68 : decode cX6_findWithin 68 = .ok (.aload_n 0, 1) := by decide +kernel
theorem dX6_findWithin_69 : decode cX6_findWithin 69 = .ok (.getfield 19, 3) := by decide +kernel
theorem dX6_findWithin_72 : decode cX6_findWithin 72 = .ok (.getfield 32, 3) := by decide +kernel
theorem dX6_findWithin_75 : decode cX6_findWithin 75 = .ok (.if_icmp .ge 23, 3) := by decide +kernel
theorem dX6_findWithin_78 : decode cX6_findWithin 78 = .ok (.aload_n 0, 1) := by decide +kernel
theorem dX6_findWithin_79 : decode cX6_findWithin 79 = .ok (.getfield 15, 3) := by decide +kernel
theorem dX6_findWithin_82 : decode cX6_findWithin 82 = .ok (.iload 4, 2) := by decide +kernel
theorem dX6_findWithin_84 : decode cX6_findWithin 84 = .ok (.aload_n 0, 1) := by decide +kernel
theorem dX6_findWithin_85 : decode cX6_findWithin 85 = .ok (.iload 4, 2) := by decide +kernel
theorem dX6_findWithin_87 : decode cX6_findWithin 87 = .ok (.aload_n 2, 1) := by decide +kernel
theorem dX6_findWithin_88 : decode cX6_findWithin 88 = .ok (.invokevirtual 99, 3) := by decide +kernel
theorem dX6_findWithin_91 : decode cX6_findWithin 91 = .ok (.lastore, 1) := by decide +kernel
theorem dX6_findWithin_92 : decode cX6_findWithin 92 = .ok (.iinc 4 1, 3) := by decide +kernel
theorem dX6_findWithin_95 : decode cX6_findWithin 95 = .ok (.goto (-29), 3) := by decide +kernel
theorem dX6_findWithin_98 : decode cX6_findWithin 98 = .ok (.aload_n 0, 1) := by decide +kernel
theorem dX6_findWithin_99 : decode cX6_findWithin 99 = .ok (.getfield 15, 3) := by decide +kernel
theorem dX6_findWithin_102 : decode cX6_findWithin 102 = .ok (.iconst 0, 1) := by decide +kernel
theorem dX6_findWithin_103 : decode cX6_findWithin 103 = .ok (.aload_n 2, 1) := by decide +kernel
theorem dX6_findWithin_104 : decode cX6_findWithin 104 = .ok (.getfield 71, 3) := by decide +kernel
theorem dX6_findWithin_107 : decode cX6_findWithin 107 = .ok (.iconst 0, 1) := by decide +kernel
theorem dX6_findWithin_108 : decode cX6_findWithin 108 = .ok (.bipush 12, 2) := by decide +kernel
theorem dX6_findWithin_110 : decode cX6_findWithin 110 = .ok (.invokestatic 103, 3) := by decide +kernel
theorem dX6_findWithin_113 : decode cX6_findWithin 113 = .ok (.aload_n 2, 1) := by decide +kernel
theorem dX6_findWithin_114 : decode cX6_findWithin 114 = .ok (.dup, 1) := by decide +kernel
theorem dX6_findWithin_115 : decode cX6_findWithin 115 = .ok (.getfield 92, 3) := by decide +kernel
theorem dX6_findWithin_118 : decode cX6_findWithin 118 = .ok (.ldc2_w 109, 3) := by decide +kernel
theorem dX6_findWithin_121 : decode cX6_findWithin 121 = .ok (.lmul, 1) := by decide +kernel
theorem dX6_findWithin_122 : decode cX6_findWithin 122 = .ok (.putfield 92, 3) := by decide +kernel
theorem dX6_findWithin_125 : decode cX6_findWithin 125 = .ok (.iinc 3 1, 3) := by decide +kernel
theorem dX6_findWithin_128 : decode cX6_findWithin 128 = .ok (.goto (-70), 3) := by decide +kernel
theorem dX6_findWithin_131 : decode cX6_findWithin 131 = .ok (.return_, 1) := by decide +kernel
theorem dX6_findWorth_0 : decode cX6_findWorth 0 = .ok (.iconst 1, 1) := by decide +kernel
theorem dX6_findWorth_1 : decode cX6_findWorth 1 = .ok (.istore 5, 2) := by decide +kernel
theorem dX6_findWorth_3 : decode cX6_findWorth 3 = .ok (.iconst 0, 1) := by decide +kernel
theorem dX6_findWorth_4 : decode cX6_findWorth 4 = .ok (.istore 6, 2) := by decide +kernel
theorem dX6_findWorth_6 : decode cX6_findWorth 6 = .ok (.iload 5, 2) := by decide +kernel
theorem dX6_findWorth_8 : decode cX6_findWorth 8 = .ok (.ifCond .eq 44, 3) := by decide +kernel
theorem dX6_findWorth_11 : decode cX6_findWorth 11 = .ok (.iload 6, 2) := by decide +kernel
theorem dX6_findWorth_13 : decode cX6_findWorth 13 = .ok (.sipush 6561, 3) := by decide +kernel
theorem dX6_findWorth_16 : decode cX6_findWorth 16 = .ok (.if_icmp .ge 36, 3) := by decide +kernel
theorem dX6_findWorth_19 : decode cX6_findWorth 19 = .ok (.aload_n 0, 1) := by decide +kernel
theorem dX6_findWorth_20 : decode cX6_findWorth 20 = .ok (.aload_n 1, 1) := by decide +kernel
theorem dX6_findWorth_21 : decode cX6_findWorth 21 = .ok (.iload_n 2, 1) := by decide +kernel
theorem dX6_findWorth_22 : decode cX6_findWorth 22 = .ok (.iload_n 3, 1) := by decide +kernel
theorem dX6_findWorth_23 : decode cX6_findWorth 23 = .ok (.aload 4, 2) := by decide +kernel
theorem dX6_findWorth_25 : decode cX6_findWorth 25 = .ok (.invokevirtual 53, 3) := by decide +kernel
theorem dX6_findWorth_28 : decode cX6_findWorth 28 = .ok (.aload_n 0, 1) := by decide +kernel
theorem dX6_findWorth_29 : decode cX6_findWorth 29 = .ok (.iconst 1, 1) := by decide +kernel
theorem dX6_findWorth_30 : decode cX6_findWorth 30 = .ok (.aload_n 1, 1) := by decide +kernel
theorem dX6_findWorth_31 : decode cX6_findWorth 31 = .ok (.aload 4, 2) := by decide +kernel
theorem dX6_findWorth_33 : decode cX6_findWorth 33 = .ok (.invokevirtual 57, 3) := by decide +kernel
theorem dX6_findWorth_36 : decode cX6_findWorth 36 = .ok (.ifCond .le 7, 3) := by decide +kernel
theorem dX6_findWorth_39 : decode cX6_findWorth 39 = .ok (.iconst 1, 1) := by decide +kernel
theorem dX6_findWorth_40 : decode cX6_findWorth 40 = .ok (.goto 4, 3) := by decide +kernel
theorem dX6_findWorth_43 : decode cX6_findWorth 43 = .ok (.iconst 0, 1) := by decide +kernel
theorem dX6_findWorth_44 : decode cX6_findWorth 44 = .ok (.istore 5, 2) := by decide +kernel
theorem dX6_findWorth_46 : decode cX6_findWorth 46 = .ok (.iinc 6 1, 3) := by decide +kernel
theorem dX6_findWorth_49 : decode cX6_findWorth 49 = .ok (.goto (-43), 3) := by decide +kernel
theorem dX6_findWorth_52 : decode cX6_findWorth 52 = .ok (.return_, 1) := by decide +kernel
theorem dX6_firstWays_0 : decode cX6_firstWays 0 = .ok (.iconst 0, 1) := by decide +kernel
theorem dX6_firstWays_1 : decode cX6_firstWays 1 = .ok (.istore_n 2, 1) := by decide +kernel
theorem dX6_firstWays_2 : decode cX6_firstWays 2 = .ok (.iload_n 2, 1) := by decide +kernel
theorem dX6_firstWays_3 : decode cX6_firstWays 3 = .ok (.aload_n 0, 1) := by decide +kernel
theorem dX6_firstWays_4 : decode cX6_firstWays 4 = .ok (.getfield 19, 3) := by decide +kernel
theorem dX6_firstWays_7 : decode cX6_firstWays 7 = .ok (.getfield 32, 3) := by decide +kernel
theorem dX6_firstWays_10 : decode cX6_firstWays 10 = .ok (.if_icmp .ge 38, 3) := by decide +kernel
theorem dX6_firstWays_13 : decode cX6_firstWays 13 = .ok (.aload_n 1, 1) := by decide +kernel
theorem dX6_firstWays_14 : decode cX6_firstWays 14 = .ok (.iload_n 2, 1) := by decide +kernel
theorem dX6_firstWays_15 : decode cX6_firstWays 15 = .ok (.aload_n 0, 1) := by decide +kernel
theorem dX6_firstWays_16 : decode cX6_firstWays 16 = .ok (.getfield 19, 3) := by decide +kernel
theorem dX6_firstWays_19 : decode cX6_firstWays 19 = .ok (.getfield 38, 3) := by decide +kernel
theorem dX6_firstWays_22 : decode cX6_firstWays 22 = .ok (.iload_n 2, 1) := by decide +kernel
theorem dX6_firstWays_23 : decode cX6_firstWays 23 = .ok (.iaload, 1) := by decide +kernel
theorem dX6_firstWays_24 : decode cX6_firstWays 24 = .ok (.iconst (-1), 1) := by decide +kernel
theorem dX6_firstWays_25 : decode cX6_firstWays 25 = .ok (.if_icmp .ne 7, 3) := by decide +kernel
theorem dX6_firstWays_28 : decode cX6_firstWays 28 = .ok (.iconst 0, 1) := by decide +kernel
theorem dX6_firstWays_29 : decode cX6_firstWays 29 = .ok (.goto 12, 3) := by decide +kernel
theorem dX6_firstWays_32 : decode cX6_firstWays 32 = .ok (.aload_n 0, 1) := by decide +kernel
theorem dX6_firstWays_33 : decode cX6_firstWays 33 = .ok (.getfield 19, 3) := by decide +kernel
theorem dX6_firstWays_36 : decode cX6_firstWays 36 = .ok (.getfield 38, 3) := by decide +kernel
theorem dX6_firstWays_39 : decode cX6_firstWays 39 = .ok (.iload_n 2, 1) := by decide +kernel
theorem dX6_firstWays_40 : decode cX6_firstWays 40 = .ok (.iaload, 1) := by decide +kernel
theorem dX6_firstWays_41 : decode cX6_firstWays 41 = .ok (.iastore, 1) := by decide +kernel
theorem dX6_firstWays_42 : decode cX6_firstWays 42 = .ok (.iinc 2 1, 3) := by decide +kernel
theorem dX6_firstWays_45 : decode cX6_firstWays 45 = .ok (.goto (-43), 3) := by decide +kernel
theorem dX6_firstWays_48 : decode cX6_firstWays 48 = .ok (.return_, 1) := by decide +kernel
theorem dX6_goodOf_0 : decode cX6_goodOf 0 = .ok (.aload_n 0, 1) := by decide +kernel
theorem dX6_goodOf_1 : decode cX6_goodOf 1 = .ok (.getfield 9, 3) := by decide +kernel
theorem dX6_goodOf_4 : decode cX6_goodOf 4 = .ok (.iload_n 1, 1) := by decide +kernel
theorem dX6_goodOf_5 : decode cX6_goodOf 5 = .ok (.iaload, 1) := by decide +kernel
theorem dX6_goodOf_6 : decode cX6_goodOf 6 = .ok (.istore_n 3, 1) := by decide +kernel
theorem dX6_goodOf_7 : decode cX6_goodOf 7 = .ok (.aload_n 0, 1) := by decide +kernel
theorem dX6_goodOf_8 : decode cX6_goodOf 8 = .ok (.getfield 19, 3) := by decide +kernel
theorem dX6_goodOf_11 : decode cX6_goodOf 11 = .ok (.getfield 61, 3) := by decide +kernel
theorem dX6_goodOf_14 : decode cX6_goodOf 14 = .ok (.iload_n 1, 1) := by decide +kernel
theorem dX6_goodOf_15 : decode cX6_goodOf 15 = .ok (.iaload, 1) := by decide +kernel
theorem dX6_goodOf_16 : decode cX6_goodOf 16 = .ok (.iconst 2, 1) := by decide +kernel
theorem dX6_goodOf_17 : decode cX6_goodOf 17 = .ok (.if_icmp .ne 5, 3) := by decide +kernel
theorem dX6_goodOf_20 : decode cX6_goodOf 20 = .ok (.iload_n 3, 1) := by decide +kernel
theorem dX6_goodOf_21 : decode cX6_goodOf 21 = .ok (.ireturn, 1) := by decide +kernel
theorem dX6_goodOf_22 : decode cX6_goodOf 22 = .ok (.iconst 0, 1) := by decide +kernel
theorem dX6_goodOf_23 : decode cX6_goodOf 23 = .ok (.istore 4, 2) := by decide +kernel
theorem dX6_goodOf_25 : decode cX6_goodOf 25 = .ok (.iconst 0, 1) := by decide +kernel
theorem dX6_goodOf_26 : decode cX6_goodOf 26 = .ok (.istore 5, 2) := by decide +kernel
theorem dX6_goodOf_28 : decode cX6_goodOf 28 = .ok (.iload 5, 2) := by decide +kernel
theorem dX6_goodOf_30 : decode cX6_goodOf 30 = .ok (.aload_n 0, 1) := by decide +kernel
theorem dX6_goodOf_31 : decode cX6_goodOf 31 = .ok (.getfield 19, 3) := by decide +kernel
theorem dX6_goodOf_34 : decode cX6_goodOf 34 = .ok (.getfield 68, 3) := by decide +kernel
theorem dX6_goodOf_37 : decode cX6_goodOf 37 = .ok (.iload_n 1, 1) := by decide +kernel
theorem dX6_goodOf_38 : decode cX6_goodOf 38 = .ok (.iaload, 1) := by decide +kernel
theorem dX6_goodOf_39 : decode cX6_goodOf 39 = .ok (.if_icmp .ge 47, 3) := by decide +kernel
theorem dX6_goodOf_42 : decode cX6_goodOf 42 = .ok (.aload_n 0, 1) := by decide +kernel
theorem dX6_goodOf_43 : decode cX6_goodOf 43 = .ok (.getfield 9, 3) := by decide +kernel
theorem dX6_goodOf_46 : decode cX6_goodOf 46 = .ok (.iload_n 1, 1) := by decide +kernel
theorem dX6_goodOf_47 : decode cX6_goodOf 47 = .ok (.iload_n 3, 1) := by decide +kernel
theorem dX6_goodOf_48 : decode cX6_goodOf 48 = .ok (.iconst 1, 1) := by decide +kernel
theorem dX6_goodOf_49 : decode cX6_goodOf 49 = .ok (.iload 5, 2) := by decide +kernel
theorem dX6_goodOf_51 : decode cX6_goodOf 51 = .ok (.ishl, 1) := by decide +kernel
theorem dX6_goodOf_52 : decode cX6_goodOf 52 = .ok (.iand, 1) := by decide +kernel
theorem dX6_goodOf_53 : decode cX6_goodOf 53 = .ok (.iastore, 1) := by decide +kernel
theorem dX6_goodOf_54 : decode cX6_goodOf 54 = .ok (.aload_n 0, 1) := by decide +kernel
theorem dX6_goodOf_55 : decode cX6_goodOf 55 = .ok (.getfield 9, 3) := by decide +kernel
theorem dX6_goodOf_58 : decode cX6_goodOf 58 = .ok (.iload_n 1, 1) := by decide +kernel
theorem dX6_goodOf_59 : decode cX6_goodOf 59 = .ok (.iaload, 1) := by decide +kernel
theorem dX6_goodOf_60 : decode cX6_goodOf 60 = .ok (.ifCond .eq 20, 3) := by decide +kernel
theorem dX6_goodOf_63 : decode cX6_goodOf 63 = .ok (.aload_n 0, 1) := by decide +kernel
theorem dX6_goodOf_64 : decode cX6_goodOf 64 = .ok (.aload_n 2, 1) := by decide +kernel
theorem dX6_goodOf_65 : decode cX6_goodOf 65 = .ok (.invokevirtual 132, 3) := by decide +kernel
theorem dX6_goodOf_68 : decode cX6_goodOf 68 = .ok (.ifCond .eq 12, 3) := by decide +kernel
theorem dX6_goodOf_71 : decode cX6_goodOf 71 = .ok (.iload 4, 2) := by decide +kernel
theorem dX6_goodOf_73 : decode cX6_goodOf 73 = .ok (.iconst 1, 1) := by decide +kernel
theorem dX6_goodOf_74 : decode cX6_goodOf 74 = .ok (.iload 5, 2) := by decide +kernel
theorem dX6_goodOf_76 : decode cX6_goodOf 76 = .ok (.ishl, 1) := by decide +kernel
theorem dX6_goodOf_77 : decode cX6_goodOf 77 = .ok (.ior, 1) := by decide +kernel
theorem dX6_goodOf_78 : decode cX6_goodOf 78 = .ok (.istore 4, 2) := by decide +kernel
theorem dX6_goodOf_80 : decode cX6_goodOf 80 = .ok (.iinc 5 1, 3) := by decide +kernel
theorem dX6_goodOf_83 : decode cX6_goodOf 83 = .ok (.goto (-55), 3) := by decide +kernel
theorem dX6_goodOf_86 : decode cX6_goodOf 86 = .ok (.aload_n 0, 1) := by decide +kernel
theorem dX6_goodOf_87 : decode cX6_goodOf 87 = .ok (.getfield 9, 3) := by decide +kernel
theorem dX6_goodOf_90 : decode cX6_goodOf 90 = .ok (.iload_n 1, 1) := by decide +kernel
theorem dX6_goodOf_91 : decode cX6_goodOf 91 = .ok (.iload_n 3, 1) := by decide +kernel
theorem dX6_goodOf_92 : decode cX6_goodOf 92 = .ok (.iastore, 1) := by decide +kernel
theorem dX6_goodOf_93 : decode cX6_goodOf 93 = .ok (.iload 4, 2) := by decide +kernel
theorem dX6_goodOf_95 : decode cX6_goodOf 95 = .ok (.ireturn, 1) := by decide +kernel
theorem dX6_goodWays_0 : decode cX6_goodWays 0 = .ok (.aload_n 0, 1) := by decide +kernel
theorem dX6_goodWays_1 : decode cX6_goodWays 1 = .ok (.aload_n 2, 1) := by decide +kernel
theorem dX6_goodWays_2 : decode cX6_goodWays 2 = .ok (.invokevirtual 117, 3) := by decide +kernel
theorem dX6_goodWays_5 : decode cX6_goodWays 5 = .ok (.aload_n 0, 1) := by decide +kernel
theorem dX6_goodWays_6 : decode cX6_goodWays 6 = .ok (.iload_n 1, 1) := by decide +kernel
theorem dX6_goodWays_7 : decode cX6_goodWays 7 = .ok (.aload_n 2, 1) := by decide +kernel
theorem dX6_goodWays_8 : decode cX6_goodWays 8 = .ok (.invokevirtual 124, 3) := by decide +kernel
theorem dX6_goodWays_11 : decode cX6_goodWays 11 = .ok (.ireturn, 1) := by decide +kernel
theorem dX6_isBrought_0 : decode cX6_isBrought 0 = .ok (.iconst 0, 1) := by decide +kernel
theorem dX6_isBrought_1 : decode cX6_isBrought 1 = .ok (.istore 4, 2) := by decide +kernel
theorem dX6_isBrought_3 : decode cX6_isBrought 3 = .ok (.iconst 1, 1) := by decide +kernel
theorem dX6_isBrought_4 : decode cX6_isBrought 4 = .ok (.istore 5, 2) := by decide +kernel
theorem dX6_isBrought_6 : decode cX6_isBrought 6 = .ok (.iconst 0, 1) := by decide +kernel
theorem dX6_isBrought_7 : decode cX6_isBrought 7 = .ok (.istore 6, 2) := by decide +kernel
theorem dX6_isBrought_9 : decode cX6_isBrought 9 = .ok (.iload 6, 2) := by decide +kernel
theorem dX6_isBrought_11 : decode cX6_isBrought 11 = .ok (.aload_n 0, 1) := by decide +kernel
theorem dX6_isBrought_12 : decode cX6_isBrought 12 = .ok (.getfield 19, 3) := by decide +kernel
theorem dX6_isBrought_15 : decode cX6_isBrought 15 = .ok (.getfield 68, 3) := by decide +kernel
theorem dX6_isBrought_18 : decode cX6_isBrought 18 = .ok (.iload_n 1, 1) := by decide +kernel
theorem dX6_isBrought_19 : decode cX6_isBrought 19 = .ok (.iaload, 1) := by decide +kernel
theorem dX6_isBrought_20 : decode cX6_isBrought 20 = .ok (.if_icmp .ge 113, 3) := by decide +kernel
theorem dX6_isBrought_23 : decode cX6_isBrought 23 = .ok (.aload_n 0, 1) := by decide +kernel
theorem dX6_isBrought_24 : decode cX6_isBrought 24 = .ok (.getfield 19, 3) := by decide +kernel
theorem dX6_isBrought_27 : decode cX6_isBrought 27 = .ok (.iload_n 1, 1) := by decide +kernel
theorem dX6_isBrought_28 : decode cX6_isBrought 28 = .ok (.iload 6, 2) := by decide +kernel
theorem dX6_isBrought_30 : decode cX6_isBrought 30 = .ok (.invokevirtual 76, 3) := by decide +kernel
theorem dX6_isBrought_33 : decode cX6_isBrought 33 = .ok (.istore 7, 2) := by decide +kernel
theorem dX6_isBrought_35 : decode cX6_isBrought 35 = .ok (.iload_n 2, 1) := by decide +kernel
theorem dX6_isBrought_36 : decode cX6_isBrought 36 = .ok (.iload 7, 2) := by decide +kernel
theorem dX6_isBrought_38 : decode cX6_isBrought 38 = .ok (.ishr, 1) := by decide +kernel
theorem dX6_isBrought_39 : decode cX6_isBrought 39 = .ok (.iconst 1, 1) := by decide +kernel
theorem dX6_isBrought_40 : decode cX6_isBrought 40 = .ok (.iand, 1) := by decide +kernel
theorem dX6_isBrought_41 : decode cX6_isBrought 41 = .ok (.ifCond .eq 7, 3) := by decide +kernel
theorem dX6_isBrought_44 : decode cX6_isBrought 44 = .ok (.iconst 1, 1) := by decide +kernel
theorem dX6_isBrought_45 : decode cX6_isBrought 45 = .ok (.goto 4, 3) := by decide +kernel
theorem dX6_isBrought_48 : decode cX6_isBrought 48 = .ok (.iconst 0, 1) := by decide +kernel
theorem dX6_isBrought_49 : decode cX6_isBrought 49 = .ok (.istore 8, 2) := by decide +kernel
theorem dX6_isBrought_51 : decode cX6_isBrought 51 = .ok (.aload_n 0, 1) := by decide +kernel
theorem dX6_isBrought_52 : decode cX6_isBrought 52 = .ok (.getfield 19, 3) := by decide +kernel
theorem dX6_isBrought_55 : decode cX6_isBrought 55 = .ok (.getfield 61, 3) := by decide +kernel
theorem dX6_isBrought_58 : decode cX6_isBrought 58 = .ok (.iload_n 1, 1) := by decide +kernel
theorem dX6_isBrought_59 : decode cX6_isBrought 59 = .ok (.iaload, 1) := by decide +kernel
theorem dX6_isBrought_60 : decode cX6_isBrought 60 = .ok (.iconst 3, 1) := by decide +kernel
theorem dX6_isBrought_61 : decode cX6_isBrought 61 = .ok (.if_icmp .ne 38, 3) := by decide +kernel
theorem dX6_isBrought_64 : decode cX6_isBrought 64 = .ok (.iload 4, 2) := by decide +kernel
theorem dX6_isBrought_66 : decode cX6_isBrought 66 = .ok (.iload 8, 2) := by decide +kernel
theorem dX6_isBrought_68 : decode cX6_isBrought 68 = .ok (.ifCond .ne 20, 3) := by decide +kernel
theorem dX6_isBrought_71 : decode cX6_isBrought 71 = .ok (.aload_n 3, 1) := by decide +kernel
theorem dX6_isBrought_72 : decode cX6_isBrought 72 = .ok (.getfield 71, 3) := by decide +kernel
theorem dX6_isBrought_75 : decode cX6_isBrought 75 = .ok (.iload 7, 2) := by decide +kernel
theorem dX6_isBrought_77 : decode cX6_isBrought 77 = .ok (.laload, 1) := by decide +kernel
theorem dX6_isBrought_78 : decode cX6_isBrought 78 = .ok (.aload_n 3, 1) := by decide +kernel
theorem dX6_isBrought_79 : decode cX6_isBrought 79 = .ok (.getfield 71, 3) := by decide +kernel
theorem dX6_isBrought_82 : decode cX6_isBrought 82 = .ok (.iload_n 1, 1) := by decide +kernel
theorem dX6_isBrought_83 : decode cX6_isBrought 83 = .ok (.laload, 1) := by decide +kernel
theorem dX6_isBrought_84 : decode cX6_isBrought 84 = .ok (.lcmp, 1) := by decide +kernel
theorem dX6_isBrought_85 : decode cX6_isBrought 85 = .ok (.ifCond .eq 7, 3) := by decide +kernel
theorem dX6_isBrought_88 : decode cX6_isBrought 88 = .ok (.iconst 1, 1) := by decide +kernel
theorem dX6_isBrought_89 : decode cX6_isBrought 89 = .ok (.goto 4, 3) := by decide +kernel
theorem dX6_isBrought_92 : decode cX6_isBrought 92 = .ok (.iconst 0, 1) := by decide +kernel
theorem dX6_isBrought_93 : decode cX6_isBrought 93 = .ok (.ior, 1) := by decide +kernel
theorem dX6_isBrought_94 : decode cX6_isBrought 94 = .ok (.istore 4, 2) := by decide +kernel
theorem dX6_isBrought_96 : decode cX6_isBrought 96 = .ok (.goto 31, 3) := by decide +kernel
theorem dX6_isBrought_99 : decode cX6_isBrought 99 = .ok (.aload_n 0, 1) := by decide +kernel
theorem dX6_isBrought_100 : decode cX6_isBrought 100 = .ok (.getfield 9, 3) := by decide +kernel
theorem dX6_isBrought_103 : decode cX6_isBrought 103 = .ok (.iload_n 1, 1) := by decide +kernel
theorem dX6_isBrought_104 : decode cX6_isBrought 104 = .ok (.iaload, 1) := by decide +kernel
theorem dX6_isBrought_105 : decode cX6_isBrought 105 = .ok (.iload 6, 2) := by decide +kernel
theorem dX6_isBrought_107 : decode cX6_isBrought 107 = .ok (.ishr, 1) := by decide +kernel
theorem dX6_isBrought_108 : decode cX6_isBrought 108 = .ok (.iconst 1, 1) := by decide +kernel
theorem dX6_isBrought_109 : decode cX6_isBrought 109 = .ok (.iand, 1) := by decide +kernel
theorem dX6_isBrought_110 : decode cX6_isBrought 110 = .ok (.ifCond .eq 17, 3) := by decide +kernel
theorem dX6_isBrought_113 : decode cX6_isBrought 113 = .ok (.iload 4, 2) := by decide +kernel
theorem dX6_isBrought_115 : decode cX6_isBrought 115 = .ok (.iload 8, 2) := by decide +kernel
theorem dX6_isBrought_117 : decode cX6_isBrought 117 = .ok (.ior, 1) := by decide +kernel
theorem dX6_isBrought_118 : decode cX6_isBrought 118 = .ok (.istore 4, 2) := by decide +kernel
theorem dX6_isBrought_120 : decode cX6_isBrought 120 = .ok (.iload 5, 2) := by decide +kernel
theorem dX6_isBrought_122 : decode cX6_isBrought 122 = .ok (.iload 8, 2) := by decide +kernel
theorem dX6_isBrought_124 : decode cX6_isBrought 124 = .ok (.iand, 1) := by decide +kernel
theorem dX6_isBrought_125 : decode cX6_isBrought 125 = .ok (.istore 5, 2) := by decide +kernel
theorem dX6_isBrought_127 : decode cX6_isBrought 127 = .ok (.iinc 6 1, 3) := by decide +kernel
theorem dX6_isBrought_130 : decode cX6_isBrought 130 = .ok (.goto (-121), 3) := by decide +kernel
theorem dX6_isBrought_133 : decode cX6_isBrought 133 = .ok (.aload_n 0, 1) := by decide +kernel
theorem dX6_isBrought_134 : decode cX6_isBrought 134 = .ok (.getfield 19, 3) := by decide +kernel
theorem dX6_isBrought_137 : decode cX6_isBrought 137 = .ok (.getfield 61, 3) := by decide +kernel
theorem dX6_isBrought_140 : decode cX6_isBrought 140 = .ok (.iload_n 1, 1) := by decide +kernel
theorem dX6_isBrought_141 : decode cX6_isBrought 141 = .ok (.iaload, 1) := by decide +kernel
theorem dX6_isBrought_142 : decode cX6_isBrought 142 = .ok (.iconst 2, 1) := by decide +kernel
theorem dX6_isBrought_143 : decode cX6_isBrought 143 = .ok (.if_icmp .ne 21, 3) := by decide +kernel
theorem dX6_isBrought_146 : decode cX6_isBrought 146 = .ok (.iload 4, 2) := by decide +kernel
theorem dX6_isBrought_148 : decode cX6_isBrought 148 = .ok (.ifCond .eq 12, 3) := by decide +kernel
theorem dX6_isBrought_151 : decode cX6_isBrought 151 = .ok (.iload 5, 2) := by decide +kernel
theorem dX6_isBrought_153 : decode cX6_isBrought 153 = .ok (.ifCond .eq 7, 3) := by decide +kernel
theorem dX6_isBrought_156 : decode cX6_isBrought 156 = .ok (.iconst 1, 1) := by decide +kernel
theorem dX6_isBrought_157 : decode cX6_isBrought 157 = .ok (.goto 9, 3) := by decide +kernel
theorem dX6_isBrought_160 : decode cX6_isBrought 160 = .ok (.iconst 0, 1) := by decide +kernel
theorem dX6_isBrought_161 : decode cX6_isBrought 161 = .ok (.goto 5, 3) := by decide +kernel
theorem dX6_isBrought_164 : decode cX6_isBrought 164 = .ok (.iload 4, 2) := by decide +kernel
theorem dX6_isBrought_166 : decode cX6_isBrought 166 = .ok (.ireturn, 1) := by decide +kernel
theorem dX6_keepEven_0 : decode cX6_keepEven 0 = .ok (.iconst 0, 1) := by decide +kernel
theorem dX6_keepEven_1 : decode cX6_keepEven 1 = .ok (.istore_n 2, 1) := by decide +kernel
theorem dX6_keepEven_2 : decode cX6_keepEven 2 = .ok (.iload_n 2, 1) := by decide +kernel
theorem dX6_keepEven_3 : decode cX6_keepEven 3 = .ok (.aload_n 0, 1) := by decide +kernel
theorem dX6_keepEven_4 : decode cX6_keepEven 4 = .ok (.getfield 19, 3) := by decide +kernel
theorem dX6_keepEven_7 : decode cX6_keepEven 7 = .ok (.getfield 32, 3) := by decide +kernel
theorem dX6_keepEven_10 : decode cX6_keepEven 10 = .ok (.if_icmp .ge 85, 3) := by decide +kernel
theorem dX6_keepEven_13 : decode cX6_keepEven 13 = .ok (.aload_n 0, 1) := by decide +kernel
theorem dX6_keepEven_14 : decode cX6_keepEven 14 = .ok (.getfield 9, 3) := by decide +kernel
theorem dX6_keepEven_17 : decode cX6_keepEven 17 = .ok (.iload_n 2, 1) := by decide +kernel
theorem dX6_keepEven_18 : decode cX6_keepEven 18 = .ok (.iconst 0, 1) := by decide +kernel
theorem dX6_keepEven_19 : decode cX6_keepEven 19 = .ok (.iastore, 1) := by decide +kernel
theorem dX6_keepEven_20 : decode cX6_keepEven 20 = .ok (.iconst 0, 1) := by decide +kernel
theorem dX6_keepEven_21 : decode cX6_keepEven 21 = .ok (.istore_n 3, 1) := by decide +kernel
theorem dX6_keepEven_22 : decode cX6_keepEven 22 = .ok (.iload_n 3, 1) := by decide +kernel
theorem dX6_keepEven_23 : decode cX6_keepEven 23 = .ok (.aload_n 0, 1) := by decide +kernel
theorem dX6_keepEven_24 : decode cX6_keepEven 24 = .ok (.getfield 19, 3) := by decide +kernel
theorem dX6_keepEven_27 : decode cX6_keepEven 27 = .ok (.getfield 68, 3) := by decide +kernel
theorem dX6_keepEven_30 : decode cX6_keepEven 30 = .ok (.iload_n 2, 1) := by decide +kernel
theorem dX6_keepEven_31 : decode cX6_keepEven 31 = .ok (.iaload, 1) := by decide +kernel
theorem dX6_keepEven_32 : decode cX6_keepEven 32 = .ok (.if_icmp .ge 57, 3) := by decide +kernel
theorem dX6_keepEven_35 : decode cX6_keepEven 35 = .ok (.aload_n 0, 1) := by decide +kernel
theorem dX6_keepEven_36 : decode cX6_keepEven 36 = .ok (.getfield 19, 3) := by decide +kernel
theorem dX6_keepEven_39 : decode cX6_keepEven 39 = .ok (.iload_n 2, 1) := by decide +kernel
theorem dX6_keepEven_40 : decode cX6_keepEven 40 = .ok (.iload_n 3, 1) := by decide +kernel
theorem dX6_keepEven_41 : decode cX6_keepEven 41 = .ok (.invokevirtual 128, 3) := by decide +kernel
theorem dX6_keepEven_44 : decode cX6_keepEven 44 = .ok (.ifCond .eq 39, 3) := by decide +kernel
theorem dX6_keepEven_47 : decode cX6_keepEven 47 = .ok (.aload_n 1, 1) := by decide +kernel
theorem dX6_keepEven_48 : decode cX6_keepEven 48 = .ok (.getfield 71, 3) := by decide +kernel
theorem dX6_keepEven_51 : decode cX6_keepEven 51 = .ok (.aload_n 0, 1) := by decide +kernel
theorem dX6_keepEven_52 : decode cX6_keepEven 52 = .ok (.getfield 19, 3) := by decide +kernel
theorem dX6_keepEven_55 : decode cX6_keepEven 55 = .ok (.iload_n 2, 1) := by decide +kernel
theorem dX6_keepEven_56 : decode cX6_keepEven 56 = .ok (.iload_n 3, 1) := by decide +kernel
theorem dX6_keepEven_57 : decode cX6_keepEven 57 = .ok (.invokevirtual 76, 3) := by decide +kernel
theorem dX6_keepEven_60 : decode cX6_keepEven 60 = .ok (.laload, 1) := by decide +kernel
theorem dX6_keepEven_61 : decode cX6_keepEven 61 = .ok (.aload_n 1, 1) := by decide +kernel
theorem dX6_keepEven_62 : decode cX6_keepEven 62 = .ok (.getfield 71, 3) := by decide +kernel
theorem dX6_keepEven_65 : decode cX6_keepEven 65 = .ok (.iload_n 2, 1) := by decide +kernel
theorem dX6_keepEven_66 : decode cX6_keepEven 66 = .ok (.laload, 1) := by decide +kernel
theorem dX6_keepEven_67 : decode cX6_keepEven 67 = .ok (.lcmp, 1) := by decide +kernel
theorem dX6_keepEven_68 : decode cX6_keepEven 68 = .ok (.ifCond .ne 15, 3) := by decide +kernel
theorem dX6_keepEven_71 : decode cX6_keepEven 71 = .ok (.aload_n 0, 1) := by decide +kernel
theorem dX6_keepEven_72 : decode cX6_keepEven 72 = .ok (.getfield 9, 3) := by decide +kernel
theorem dX6_keepEven_75 : decode cX6_keepEven 75 = .ok (.iload_n 2, 1) := by decide +kernel
theorem dX6_keepEven_76 : decode cX6_keepEven 76 = .ok (.dup2, 1) := by decide +kernel
theorem dX6_keepEven_77 : decode cX6_keepEven 77 = .ok (.iaload, 1) := by decide +kernel
theorem dX6_keepEven_78 : decode cX6_keepEven 78 = .ok (.iconst 1, 1) := by decide +kernel
theorem dX6_keepEven_79 : decode cX6_keepEven 79 = .ok (.iload_n 3, 1) := by decide +kernel
theorem dX6_keepEven_80 : decode cX6_keepEven 80 = .ok (.ishl, 1) := by decide +kernel
theorem dX6_keepEven_81 : decode cX6_keepEven 81 = .ok (.ior, 1) := by decide +kernel
theorem dX6_keepEven_82 : decode cX6_keepEven 82 = .ok (.iastore, 1) := by decide +kernel
theorem dX6_keepEven_83 : decode cX6_keepEven 83 = .ok (.iinc 3 1, 3) := by decide +kernel
theorem dX6_keepEven_86 : decode cX6_keepEven 86 = .ok (.goto (-64), 3) := by decide +kernel
theorem dX6_keepEven_89 : decode cX6_keepEven 89 = .ok (.iinc 2 1, 3) := by decide +kernel
theorem dX6_keepEven_92 : decode cX6_keepEven 92 = .ok (.goto (-90), 3) := by decide +kernel
theorem dX6_keepEven_95 : decode cX6_keepEven 95 = .ok (.return_, 1) := by decide +kernel
theorem dX6_lowest_0 : decode cX6_lowest 0 = .ok (.iconst 0, 1) := by decide +kernel
theorem dX6_lowest_1 : decode cX6_lowest 1 = .ok (.istore_n 1, 1) := by decide +kernel
theorem dX6_lowest_2 : decode cX6_lowest 2 = .ok (.iload_n 1, 1) := by decide +kernel
theorem dX6_lowest_3 : decode cX6_lowest 3 = .ok (.iconst 3, 1) := by decide +kernel
theorem dX6_lowest_4 : decode cX6_lowest 4 = .ok (.if_icmp .ge 19, 3) := by decide +kernel
theorem dX6_lowest_7 : decode cX6_lowest 7 = .ok (.iload_n 0, 1) := by decide +kernel
theorem dX6_lowest_8 : decode cX6_lowest 8 = .ok (.iload_n 1, 1) := by decide +kernel
theorem dX6_lowest_9 : decode cX6_lowest 9 = .ok (.ishr, 1) := by decide +kernel
theorem dX6_lowest_10 : decode cX6_lowest 10 = .ok (.iconst 1, 1) := by decide +kernel
theorem dX6_lowest_11 : decode cX6_lowest 11 = .ok (.iand, 1) := by decide +kernel
theorem dX6_lowest_12 : decode cX6_lowest 12 = .ok (.ifCond .eq 5, 3) := by decide +kernel
theorem dX6_lowest_15 : decode cX6_lowest 15 = .ok (.iload_n 1, 1) := by decide +kernel
theorem dX6_lowest_16 : decode cX6_lowest 16 = .ok (.ireturn, 1) := by decide +kernel
theorem dX6_lowest_17 : decode cX6_lowest 17 = .ok (.iinc 1 1, 3) := by decide +kernel
theorem dX6_lowest_20 : decode cX6_lowest 20 = .ok (.goto (-18), 3) := by decide +kernel
theorem dX6_lowest_23 : decode cX6_lowest 23 = .ok (.iconst 0, 1) := by decide +kernel
theorem dX6_lowest_24 : decode cX6_lowest 24 = .ok (.ireturn, 1) := by decide +kernel
theorem dX6_oneMoveMore_0 : decode cX6_oneMoveMore 0 = .ok (.aload_n 0, 1) := by decide +kernel
theorem dX6_oneMoveMore_1 : decode cX6_oneMoveMore 1 = .ok (.getfield 19, 3) := by decide +kernel
theorem dX6_oneMoveMore_4 : decode cX6_oneMoveMore 4 = .ok (.getfield 61, 3) := by decide +kernel
theorem dX6_oneMoveMore_7 : decode cX6_oneMoveMore 7 = .ok (.iload_n 1, 1) := by decide +kernel
theorem dX6_oneMoveMore_8 : decode cX6_oneMoveMore 8 = .ok (.iaload, 1) := by decide +kernel
theorem dX6_oneMoveMore_9 : decode cX6_oneMoveMore 9 = .ok (.ifCond .ne 14, 3) := by decide +kernel
theorem dX6_oneMoveMore_12 : decode cX6_oneMoveMore 12 = .ok (.ldc2_w 109, 3) := by decide +kernel
theorem dX6_oneMoveMore_15 : decode cX6_oneMoveMore 15 = .ok (.aload_n 2, 1) := by decide +kernel
theorem dX6_oneMoveMore_16 : decode cX6_oneMoveMore 16 = .ok (.getfield 71, 3) := by decide +kernel
theorem dX6_oneMoveMore_19 : decode cX6_oneMoveMore 19 = .ok (.iload_n 1, 1) := by decide +kernel
theorem dX6_oneMoveMore_20 : decode cX6_oneMoveMore 20 = .ok (.laload, 1) := by decide +kernel
theorem dX6_oneMoveMore_21 : decode cX6_oneMoveMore 21 = .ok (.lmul, 1) := by decide +kernel
theorem dX6_oneMoveMore_22 : decode cX6_oneMoveMore 22 = .ok (.lreturn, 1) := by decide +kernel
theorem dX6_oneMoveMore_23 : decode cX6_oneMoveMore 23 = .ok (.aload_n 0, 1) := by decide +kernel
theorem dX6_oneMoveMore_24 : decode cX6_oneMoveMore 24 = .ok (.getfield 19, 3) := by decide +kernel
theorem dX6_oneMoveMore_27 : decode cX6_oneMoveMore 27 = .ok (.getfield 61, 3) := by decide +kernel
theorem dX6_oneMoveMore_30 : decode cX6_oneMoveMore 30 = .ok (.iload_n 1, 1) := by decide +kernel
theorem dX6_oneMoveMore_31 : decode cX6_oneMoveMore 31 = .ok (.iaload, 1) := by decide +kernel
theorem dX6_oneMoveMore_32 : decode cX6_oneMoveMore 32 = .ok (.iconst 3, 1) := by decide +kernel
theorem dX6_oneMoveMore_33 : decode cX6_oneMoveMore 33 = .ok (.if_icmp .eq 76, 3) := by decide +kernel
theorem dX6_oneMoveMore_36 : decode cX6_oneMoveMore 36 = .ok (.aload_n 0, 1) := by decide +kernel
theorem dX6_oneMoveMore_37 : decode cX6_oneMoveMore 37 = .ok (.getfield 19, 3) := by decide +kernel
theorem dX6_oneMoveMore_40 : decode cX6_oneMoveMore 40 = .ok (.getfield 38, 3) := by decide +kernel
theorem dX6_oneMoveMore_43 : decode cX6_oneMoveMore 43 = .ok (.iload_n 1, 1) := by decide +kernel
theorem dX6_oneMoveMore_44 : decode cX6_oneMoveMore 44 = .ok (.iaload, 1) := by decide +kernel
theorem dX6_oneMoveMore_45 : decode cX6_oneMoveMore 45 = .ok (.iconst (-1), 1) := by decide +kernel
theorem dX6_oneMoveMore_46 : decode cX6_oneMoveMore 46 = .ok (.if_icmp .ne 7, 3) := by decide +kernel
theorem dX6_oneMoveMore_49 : decode cX6_oneMoveMore 49 = .ok (.iconst 0, 1) := by decide +kernel
theorem dX6_oneMoveMore_50 : decode cX6_oneMoveMore 50 = .ok (.goto 12, 3) := by decide +kernel
theorem dX6_oneMoveMore_53 : decode cX6_oneMoveMore 53 = .ok (.aload_n 0, 1) := by decide +kernel
theorem dX6_oneMoveMore_54 : decode cX6_oneMoveMore 54 = .ok (.getfield 19, 3) := by decide +kernel
theorem dX6_oneMoveMore_57 : decode cX6_oneMoveMore 57 = .ok (.getfield 38, 3) := by decide +kernel
theorem dX6_oneMoveMore_60 : decode cX6_oneMoveMore 60 = .ok (.iload_n 1, 1) := by decide +kernel
theorem dX6_oneMoveMore_61 : decode cX6_oneMoveMore 61 = .ok (.iaload, 1) := by decide +kernel
theorem dX6_oneMoveMore_62 : decode cX6_oneMoveMore 62 = .ok (.istore_n 3, 1) := by decide +kernel
theorem dX6_oneMoveMore_63 : decode cX6_oneMoveMore 63 = .ok (.aload_n 0, 1) := by decide +kernel
theorem dX6_oneMoveMore_64 : decode cX6_oneMoveMore 64 = .ok (.getfield 19, 3) := by decide +kernel
theorem dX6_oneMoveMore_67 : decode cX6_oneMoveMore 67 = .ok (.getfield 38, 3) := by decide +kernel
theorem dX6_oneMoveMore_70 : decode cX6_oneMoveMore 70 = .ok (.iload_n 1, 1) := by decide +kernel
theorem dX6_oneMoveMore_71 : decode cX6_oneMoveMore 71 = .ok (.iaload, 1) := by decide +kernel
theorem dX6_oneMoveMore_72 : decode cX6_oneMoveMore 72 = .ok (.iconst (-1), 1) := by decide +kernel
theorem dX6_oneMoveMore_73 : decode cX6_oneMoveMore 73 = .ok (.if_icmp .ne 13, 3) := by decide +kernel
theorem dX6_oneMoveMore_76 : decode cX6_oneMoveMore 76 = .ok (.aload_n 0, 1) := by decide +kernel
theorem dX6_oneMoveMore_77 : decode cX6_oneMoveMore 77 = .ok (.iload_n 1, 1) := by decide +kernel
theorem dX6_oneMoveMore_78 : decode cX6_oneMoveMore 78 = .ok (.iload_n 3, 1) := by decide +kernel
theorem dX6_oneMoveMore_79 : decode cX6_oneMoveMore 79 = .ok (.aload_n 2, 1) := by decide +kernel
theorem dX6_oneMoveMore_80 : decode cX6_oneMoveMore 80 = .ok (.invokevirtual 64, 3) := by decide +kernel
theorem dX6_oneMoveMore_83 : decode cX6_oneMoveMore 83 = .ok (.goto 4, 3) := by decide +kernel
theorem dX6_oneMoveMore_86 : decode cX6_oneMoveMore 86 = .ok (.iload_n 3, 1) := by decide +kernel
theorem dX6_oneMoveMore_87 : decode cX6_oneMoveMore 87 = .ok (.istore 4, 2) := by decide +kernel
theorem dX6_oneMoveMore_89 : decode cX6_oneMoveMore 89 = .ok (.ldc2_w 109, 3) := by decide +kernel
theorem dX6_oneMoveMore_92 : decode cX6_oneMoveMore 92 = .ok (.aload_n 2, 1) := by decide +kernel
theorem dX6_oneMoveMore_93 : decode cX6_oneMoveMore 93 = .ok (.getfield 71, 3) := by decide +kernel
theorem dX6_oneMoveMore_96 : decode cX6_oneMoveMore 96 = .ok (.aload_n 0, 1) := by decide +kernel
theorem dX6_oneMoveMore_97 : decode cX6_oneMoveMore 97 = .ok (.getfield 19, 3) := by decide +kernel
theorem dX6_oneMoveMore_100 : decode cX6_oneMoveMore 100 = .ok (.iload_n 1, 1) := by decide +kernel
theorem dX6_oneMoveMore_101 : decode cX6_oneMoveMore 101 = .ok (.iload 4, 2) := by decide +kernel
theorem dX6_oneMoveMore_103 : decode cX6_oneMoveMore 103 = .ok (.invokevirtual 76, 3) := by decide +kernel
theorem dX6_oneMoveMore_106 : decode cX6_oneMoveMore 106 = .ok (.laload, 1) := by decide +kernel
theorem dX6_oneMoveMore_107 : decode cX6_oneMoveMore 107 = .ok (.lmul, 1) := by decide +kernel
theorem dX6_oneMoveMore_108 : decode cX6_oneMoveMore 108 = .ok (.lreturn, 1) := by decide +kernel
theorem dX6_oneMoveMore_109 : decode cX6_oneMoveMore 109 = .ok (.lconst 0, 1) := by decide +kernel
theorem dX6_oneMoveMore_110 : decode cX6_oneMoveMore 110 = .ok (.lstore_n 3, 1) := by decide +kernel
theorem dX6_oneMoveMore_111 : decode cX6_oneMoveMore 111 = .ok (.iconst 0, 1) := by decide +kernel
theorem dX6_oneMoveMore_112 : decode cX6_oneMoveMore 112 = .ok (.istore 5, 2) := by decide +kernel
theorem dX6_oneMoveMore_114 : decode cX6_oneMoveMore 114 = .ok (.iload 5, 2) := by decide +kernel
theorem dX6_oneMoveMore_116 : decode cX6_oneMoveMore 116 = .ok (.aload_n 0, 1) := by decide +kernel
theorem dX6_oneMoveMore_117 : decode cX6_oneMoveMore 117 = .ok (.getfield 19, 3) := by decide +kernel
theorem dX6_oneMoveMore_120 : decode cX6_oneMoveMore 120 = .ok (.getfield 68, 3) := by decide +kernel
theorem dX6_oneMoveMore_123 : decode cX6_oneMoveMore 123 = .ok (.iload_n 1, 1) := by decide +kernel
theorem dX6_oneMoveMore_124 : decode cX6_oneMoveMore 124 = .ok (.iaload, 1) := by decide +kernel
theorem dX6_oneMoveMore_125 : decode cX6_oneMoveMore 125 = .ok (.if_icmp .ge 39, 3) := by decide +kernel
theorem dX6_oneMoveMore_128 : decode cX6_oneMoveMore 128 = .ok (.lload_n 3, 1) := by decide +kernel
theorem dX6_oneMoveMore_129 : decode cX6_oneMoveMore 129 = .ok (.aload_n 0, 1) := by decide +kernel
theorem dX6_oneMoveMore_130 : decode cX6_oneMoveMore 130 = .ok (.getfield 19, 3) := by decide +kernel
theorem dX6_oneMoveMore_133 : decode cX6_oneMoveMore 133 = .ok (.iload_n 1, 1) := by decide +kernel
theorem dX6_oneMoveMore_134 : decode cX6_oneMoveMore 134 = .ok (.iload 5, 2) := by decide +kernel
theorem dX6_oneMoveMore_136 : decode cX6_oneMoveMore 136 = .ok (.invokevirtual 111, 3) := by decide +kernel
theorem dX6_oneMoveMore_139 : decode cX6_oneMoveMore 139 = .ok (.i2l, 1) := by decide +kernel
theorem dX6_oneMoveMore_140 : decode cX6_oneMoveMore 140 = .ok (.aload_n 2, 1) := by decide +kernel
theorem dX6_oneMoveMore_141 : decode cX6_oneMoveMore 141 = .ok (.getfield 71, 3) := by decide +kernel
theorem dX6_oneMoveMore_144 : decode cX6_oneMoveMore 144 = .ok (.aload_n 0, 1) := by decide +kernel
theorem dX6_oneMoveMore_145 : decode cX6_oneMoveMore 145 = .ok (.getfield 19, 3) := by decide +kernel
theorem dX6_oneMoveMore_148 : decode cX6_oneMoveMore 148 = .ok (.iload_n 1, 1) := by decide +kernel
theorem dX6_oneMoveMore_149 : decode cX6_oneMoveMore 149 = .ok (.iload 5, 2) := by decide +kernel
theorem dX6_oneMoveMore_151 : decode cX6_oneMoveMore 151 = .ok (.invokevirtual 76, 3) := by decide +kernel
theorem dX6_oneMoveMore_154 : decode cX6_oneMoveMore 154 = .ok (.laload, 1) := by decide +kernel
theorem dX6_oneMoveMore_155 : decode cX6_oneMoveMore 155 = .ok (.lmul, 1) := by decide +kernel
theorem dX6_oneMoveMore_156 : decode cX6_oneMoveMore 156 = .ok (.ladd, 1) := by decide +kernel
theorem dX6_oneMoveMore_157 : decode cX6_oneMoveMore 157 = .ok (.lstore_n 3, 1) := by decide +kernel
theorem dX6_oneMoveMore_158 : decode cX6_oneMoveMore 158 = .ok (.iinc 5 1, 3) := by decide +kernel
theorem dX6_oneMoveMore_161 : decode cX6_oneMoveMore 161 = .ok (.goto (-47), 3) := by decide +kernel
theorem dX6_oneMoveMore_164 : decode cX6_oneMoveMore 164 = .ok (.aload_n 0, 1) := by decide +kernel
theorem dX6_oneMoveMore_165 : decode cX6_oneMoveMore 165 = .ok (.getfield 19, 3) := by decide +kernel
theorem dX6_oneMoveMore_168 : decode cX6_oneMoveMore 168 = .ok (.iload_n 1, 1) := by decide +kernel
theorem dX6_oneMoveMore_169 : decode cX6_oneMoveMore 169 = .ok (.invokevirtual 114, 3) := by decide +kernel
theorem dX6_oneMoveMore_172 : decode cX6_oneMoveMore 172 = .ok (.istore 5, 2) := by decide +kernel
theorem dX6_oneMoveMore_174 : decode cX6_oneMoveMore 174 = .ok (.iload 5, 2) := by decide +kernel
theorem dX6_oneMoveMore_176 : decode cX6_oneMoveMore 176 = .ok (.ifCond .ne 7, 3) := by decide +kernel
theorem dX6_oneMoveMore_179 : decode cX6_oneMoveMore 179 = .ok (.lconst 0, 1) := by decide +kernel
theorem dX6_oneMoveMore_180 : decode cX6_oneMoveMore 180 = .ok (.goto 11, 3) := by decide +kernel
theorem dX6_oneMoveMore_183 : decode cX6_oneMoveMore 183 = .ok (.bipush 12, 2) := by decide +kernel
theorem dX6_oneMoveMore_185 : decode cX6_oneMoveMore 185 = .ok (.iload 5, 2) := by decide +kernel
theorem dX6_oneMoveMore_187 : decode cX6_oneMoveMore 187 = .ok (.idiv, 1) := by decide +kernel
theorem dX6_oneMoveMore_188 : decode cX6_oneMoveMore 188 = .ok (.i2l, 1) := by decide +kernel
theorem dX6_oneMoveMore_189 : decode cX6_oneMoveMore 189 = .ok (.lload_n 3, 1) := by decide +kernel
theorem dX6_oneMoveMore_190 : decode cX6_oneMoveMore 190 = .ok (.lmul, 1) := by decide +kernel
theorem dX6_oneMoveMore_191 : decode cX6_oneMoveMore 191 = .ok (.lreturn, 1) := by decide +kernel
theorem dX6_turn_0 : decode cX6_turn 0 = .ok (.aload_n 0, 1) := by decide +kernel
theorem dX6_turn_1 : decode cX6_turn 1 = .ok (.iload_n 1, 1) := by decide +kernel
theorem dX6_turn_2 : decode cX6_turn 2 = .ok (.aload_n 2, 1) := by decide +kernel
theorem dX6_turn_3 : decode cX6_turn 3 = .ok (.aload_n 3, 1) := by decide +kernel
theorem dX6_turn_4 : decode cX6_turn 4 = .ok (.iconst (-1), 1) := by decide +kernel
theorem dX6_turn_5 : decode cX6_turn 5 = .ok (.invokevirtual 49, 3) := by decide +kernel
theorem dX6_turn_8 : decode cX6_turn 8 = .ok (.ireturn, 1) := by decide +kernel
theorem dX6_turnOpen_0 : decode cX6_turnOpen 0 = .ok (.iconst 0, 1) := by decide +kernel
theorem dX6_turnOpen_1 : decode cX6_turnOpen 1 = .ok (.istore 5, 2) := by decide +kernel
theorem dX6_turnOpen_3 : decode cX6_turnOpen 3 = .ok (.iconst 0, 1) := by decide +kernel
theorem dX6_turnOpen_4 : decode cX6_turnOpen 4 = .ok (.istore 6, 2) := by decide +kernel
theorem dX6_turnOpen_6 : decode cX6_turnOpen 6 = .ok (.iload 6, 2) := by decide +kernel
theorem dX6_turnOpen_8 : decode cX6_turnOpen 8 = .ok (.aload_n 0, 1) := by decide +kernel
theorem dX6_turnOpen_9 : decode cX6_turnOpen 9 = .ok (.getfield 19, 3) := by decide +kernel
theorem dX6_turnOpen_12 : decode cX6_turnOpen 12 = .ok (.getfield 32, 3) := by decide +kernel
theorem dX6_turnOpen_15 : decode cX6_turnOpen 15 = .ok (.if_icmp .ge 78, 3) := by decide +kernel
theorem dX6_turnOpen_18 : decode cX6_turnOpen 18 = .ok (.aload_n 0, 1) := by decide +kernel
theorem dX6_turnOpen_19 : decode cX6_turnOpen 19 = .ok (.getfield 19, 3) := by decide +kernel
theorem dX6_turnOpen_22 : decode cX6_turnOpen 22 = .ok (.getfield 61, 3) := by decide +kernel
theorem dX6_turnOpen_25 : decode cX6_turnOpen 25 = .ok (.iload 6, 2) := by decide +kernel
theorem dX6_turnOpen_27 : decode cX6_turnOpen 27 = .ok (.iaload, 1) := by decide +kernel
theorem dX6_turnOpen_28 : decode cX6_turnOpen 28 = .ok (.iload_n 1, 1) := by decide +kernel
theorem dX6_turnOpen_29 : decode cX6_turnOpen 29 = .ok (.if_icmp .ne 58, 3) := by decide +kernel
theorem dX6_turnOpen_32 : decode cX6_turnOpen 32 = .ok (.aload_n 0, 1) := by decide +kernel
theorem dX6_turnOpen_33 : decode cX6_turnOpen 33 = .ok (.getfield 19, 3) := by decide +kernel
theorem dX6_turnOpen_36 : decode cX6_turnOpen 36 = .ok (.getfield 38, 3) := by decide +kernel
theorem dX6_turnOpen_39 : decode cX6_turnOpen 39 = .ok (.iload 6, 2) := by decide +kernel
theorem dX6_turnOpen_41 : decode cX6_turnOpen 41 = .ok (.iaload, 1) := by decide +kernel
theorem dX6_turnOpen_42 : decode cX6_turnOpen 42 = .ok (.iconst (-1), 1) := by decide +kernel
theorem dX6_turnOpen_43 : decode cX6_turnOpen 43 = .ok (.if_icmp .ne 44, 3) := by decide +kernel
theorem dX6_turnOpen_46 : decode cX6_turnOpen 46 = .ok (.iload 4, 2) := by decide +kernel
theorem dX6_turnOpen_48 : decode cX6_turnOpen 48 = .ok (.iload 6, 2) := by decide +kernel
theorem dX6_turnOpen_50 : decode cX6_turnOpen 50 = .ok (.ishr, 1) := by decide +kernel
theorem dX6_turnOpen_51 : decode cX6_turnOpen 51 = .ok (.iconst 1, 1) := by decide +kernel
theorem dX6_turnOpen_52 : decode cX6_turnOpen 52 = .ok (.iand, 1) := by decide +kernel
theorem dX6_turnOpen_53 : decode cX6_turnOpen 53 = .ok (.ifCond .eq 34, 3) := by decide +kernel
theorem dX6_turnOpen_56 : decode cX6_turnOpen 56 = .ok (.aload_n 0, 1) := by decide +kernel
theorem dX6_turnOpen_57 : decode cX6_turnOpen 57 = .ok (.iload 6, 2) := by decide +kernel
theorem dX6_turnOpen_59 : decode cX6_turnOpen 59 = .ok (.aload_n 2, 1) := by decide +kernel
theorem dX6_turnOpen_60 : decode cX6_turnOpen 60 = .ok (.iload 6, 2) := by decide +kernel
theorem dX6_turnOpen_62 : decode cX6_turnOpen 62 = .ok (.iaload, 1) := by decide +kernel
theorem dX6_turnOpen_63 : decode cX6_turnOpen 63 = .ok (.aload_n 3, 1) := by decide +kernel
theorem dX6_turnOpen_64 : decode cX6_turnOpen 64 = .ok (.invokevirtual 64, 3) := by decide +kernel
theorem dX6_turnOpen_67 : decode cX6_turnOpen 67 = .ok (.istore 7, 2) := by decide +kernel
theorem dX6_turnOpen_69 : decode cX6_turnOpen 69 = .ok (.iload 7, 2) := by decide +kernel
theorem dX6_turnOpen_71 : decode cX6_turnOpen 71 = .ok (.aload_n 2, 1) := by decide +kernel
theorem dX6_turnOpen_72 : decode cX6_turnOpen 72 = .ok (.iload 6, 2) := by decide +kernel
theorem dX6_turnOpen_74 : decode cX6_turnOpen 74 = .ok (.iaload, 1) := by decide +kernel
theorem dX6_turnOpen_75 : decode cX6_turnOpen 75 = .ok (.if_icmp .eq 12, 3) := by decide +kernel
theorem dX6_turnOpen_78 : decode cX6_turnOpen 78 = .ok (.aload_n 2, 1) := by decide +kernel
theorem dX6_turnOpen_79 : decode cX6_turnOpen 79 = .ok (.iload 6, 2) := by decide +kernel
theorem dX6_turnOpen_81 : decode cX6_turnOpen 81 = .ok (.iload 7, 2) := by decide +kernel
theorem dX6_turnOpen_83 : decode cX6_turnOpen 83 = .ok (.iastore, 1) := by decide +kernel
theorem dX6_turnOpen_84 : decode cX6_turnOpen 84 = .ok (.iinc 5 1, 3) := by decide +kernel
theorem dX6_turnOpen_87 : decode cX6_turnOpen 87 = .ok (.iinc 6 1, 3) := by decide +kernel
theorem dX6_turnOpen_90 : decode cX6_turnOpen 90 = .ok (.goto (-84), 3) := by decide +kernel
theorem dX6_turnOpen_93 : decode cX6_turnOpen 93 = .ok (.iload 5, 2) := by decide +kernel
theorem dX6_turnOpen_95 : decode cX6_turnOpen 95 = .ok (.ireturn, 1) := by decide +kernel
theorem dX6_unavoidable_0 : decode cX6_unavoidable 0 = .ok (.aload_n 0, 1) := by decide +kernel
theorem dX6_unavoidable_1 : decode cX6_unavoidable 1 = .ok (.getfield 19, 3) := by decide +kernel
theorem dX6_unavoidable_4 : decode cX6_unavoidable 4 = .ok (.invokevirtual 80, 3) := by decide +kernel
theorem dX6_unavoidable_7 : decode cX6_unavoidable 7 = .ok (.istore_n 2, 1) := by decide +kernel
theorem dX6_unavoidable_8 : decode cX6_unavoidable 8 = .ok (.iconst (-1), 1) := by decide +kernel
theorem dX6_unavoidable_9 : decode cX6_unavoidable 9 = .ok (.istore_n 3, 1) := by decide +kernel
theorem dX6_unavoidable_10 : decode cX6_unavoidable 10 = .ok (.iconst 0, 1) := by decide +kernel
theorem dX6_unavoidable_11 : decode cX6_unavoidable 11 = .ok (.istore 4, 2) := by decide +kernel
theorem dX6_unavoidable_13 : decode cX6_unavoidable 13 = .ok (.iload 4, 2) := by decide +kernel
theorem dX6_unavoidable_15 : decode cX6_unavoidable 15 = .ok (.bipush 12, 2) := by decide +kernel
theorem dX6_unavoidable_17 : decode cX6_unavoidable 17 = .ok (.if_icmp .ge 140, 3) := by decide +kernel
theorem dX6_unavoidable_20 : decode cX6_unavoidable 20 = .ok (.iload_n 2, 1) := by decide +kernel
theorem dX6_unavoidable_21 : decode cX6_unavoidable 21 = .ok (.iload_n 3, 1) := by decide +kernel
theorem dX6_unavoidable_22 : decode cX6_unavoidable 22 = .ok (.if_icmp .eq 135, 3) := by decide +kernel
theorem dX6_unavoidable_25 : decode cX6_unavoidable 25 = .ok (.iload_n 2, 1) := by decide +kernel
theorem dX6_unavoidable_26 : decode cX6_unavoidable 26 = .ok (.istore_n 3, 1) := by decide +kernel
theorem dX6_unavoidable_27 : decode cX6_unavoidable 27 = .ok (.iconst 0, 1) := by decide +kernel
theorem dX6_unavoidable_28 : decode cX6_unavoidable 28 = .ok (.istore 5, 2) := by decide +kernel
theorem dX6_unavoidable_30 : decode cX6_unavoidable 30 = .ok (.iload 5, 2) := by decide +kernel
theorem dX6_unavoidable_32 : decode cX6_unavoidable 32 = .ok (.aload_n 0, 1) := by decide +kernel
theorem dX6_unavoidable_33 : decode cX6_unavoidable 33 = .ok (.getfield 19, 3) := by decide +kernel
theorem dX6_unavoidable_36 : decode cX6_unavoidable 36 = .ok (.getfield 32, 3) := by decide +kernel
theorem dX6_unavoidable_39 : decode cX6_unavoidable 39 = .ok (.if_icmp .ge 112, 3) := by decide +kernel
theorem dX6_unavoidable_42 : decode cX6_unavoidable 42 = .ok (.aload_n 0, 1) := by decide +kernel
theorem dX6_unavoidable_43 : decode cX6_unavoidable 43 = .ok (.getfield 19, 3) := by decide +kernel
theorem dX6_unavoidable_46 : decode cX6_unavoidable 46 = .ok (.getfield 61, 3) := by decide +kernel
theorem dX6_unavoidable_49 : decode cX6_unavoidable 49 = .ok (.iload 5, 2) := by decide +kernel
theorem dX6_unavoidable_51 : decode cX6_unavoidable 51 = .ok (.iaload, 1) := by decide +kernel
theorem dX6_unavoidable_52 : decode cX6_unavoidable 52 = .ok (.iconst 2, 1) := by decide +kernel
theorem dX6_unavoidable_53 : decode cX6_unavoidable 53 = .ok (.if_icmp .ne 15, 3) := by decide +kernel
theorem dX6_unavoidable_56 : decode cX6_unavoidable 56 = .ok (.aload_n 0, 1) := by decide +kernel
theorem dX6_unavoidable_57 : decode cX6_unavoidable 57 = .ok (.getfield 19, 3) := by decide +kernel
theorem dX6_unavoidable_60 : decode cX6_unavoidable 60 = .ok (.iload 5, 2) := by decide +kernel
theorem dX6_unavoidable_62 : decode cX6_unavoidable 62 = .ok (.invokevirtual 84, 3) := by decide +kernel
theorem dX6_unavoidable_65 : decode cX6_unavoidable 65 = .ok (.goto 13, 3) := by decide +kernel
theorem dX6_unavoidable_68 : decode cX6_unavoidable 68 = .ok (.aload_n 0, 1) := by decide +kernel
theorem dX6_unavoidable_69 : decode cX6_unavoidable 69 = .ok (.getfield 28, 3) := by decide +kernel
theorem dX6_unavoidable_72 : decode cX6_unavoidable 72 = .ok (.aload_n 1, 1) := by decide +kernel
theorem dX6_unavoidable_73 : decode cX6_unavoidable 73 = .ok (.iload 5, 2) := by decide +kernel
theorem dX6_unavoidable_75 : decode cX6_unavoidable 75 = .ok (.invokevirtual 88, 3) := by decide +kernel
theorem dX6_unavoidable_78 : decode cX6_unavoidable 78 = .ok (.istore 6, 2) := by decide +kernel
theorem dX6_unavoidable_80 : decode cX6_unavoidable 80 = .ok (.aload_n 0, 1) := by decide +kernel
theorem dX6_unavoidable_81 : decode cX6_unavoidable 81 = .ok (.getfield 19, 3) := by decide +kernel
theorem dX6_unavoidable_84 : decode cX6_unavoidable 84 = .ok (.getfield 61, 3) := by decide +kernel
theorem dX6_unavoidable_87 : decode cX6_unavoidable 87 = .ok (.iload 5, 2) := by decide +kernel
theorem dX6_unavoidable_89 : decode cX6_unavoidable 89 = .ok (.iaload, 1) := by decide +kernel
theorem dX6_unavoidable_90 : decode cX6_unavoidable 90 = .ok (.iconst 2, 1) := by decide +kernel
theorem dX6_unavoidable_91 : decode cX6_unavoidable 91 = .ok (.if_icmp .ne 7, 3) := by decide +kernel
theorem dX6_unavoidable_94 : decode cX6_unavoidable 94 = .ok (.iconst 1, 1) := by decide +kernel
theorem dX6_unavoidable_95 : decode cX6_unavoidable 95 = .ok (.goto 4, 3) := by decide +kernel
theorem dX6_unavoidable_98 : decode cX6_unavoidable 98 = .ok (.iconst 0, 1) := by decide +kernel
theorem dX6_unavoidable_99 : decode cX6_unavoidable 99 = .ok (.istore 7, 2) := by decide +kernel
theorem dX6_unavoidable_101 : decode cX6_unavoidable 101 = .ok (.aload_n 0, 1) := by decide +kernel
theorem dX6_unavoidable_102 : decode cX6_unavoidable 102 = .ok (.getfield 19, 3) := by decide +kernel
theorem dX6_unavoidable_105 : decode cX6_unavoidable 105 = .ok (.getfield 61, 3) := by decide +kernel
theorem dX6_unavoidable_108 : decode cX6_unavoidable 108 = .ok (.iload 5, 2) := by decide +kernel
theorem dX6_unavoidable_110 : decode cX6_unavoidable 110 = .ok (.iaload, 1) := by decide +kernel
theorem dX6_unavoidable_111 : decode cX6_unavoidable 111 = .ok (.ifCond .eq 34, 3) := by decide +kernel
theorem dX6_unavoidable_114 : decode cX6_unavoidable 114 = .ok (.iload 7, 2) := by decide +kernel
theorem dX6_unavoidable_116 : decode cX6_unavoidable 116 = .ok (.ifCond .eq 15, 3) := by decide +kernel
theorem dX6_unavoidable_119 : decode cX6_unavoidable 119 = .ok (.iload 6, 2) := by decide +kernel
theorem dX6_unavoidable_121 : decode cX6_unavoidable 121 = .ok (.iload_n 2, 1) := by decide +kernel
theorem dX6_unavoidable_122 : decode cX6_unavoidable 122 = .ok (.iconst (-1), 1) := by decide +kernel
theorem dX6_unavoidable_123 : decode cX6_unavoidable 123 = .ok (.ixor, 1) := by decide +kernel
theorem dX6_unavoidable_124 : decode cX6_unavoidable 124 = .ok (.iand, 1) := by decide +kernel
theorem dX6_unavoidable_125 : decode cX6_unavoidable 125 = .ok (.ifCond .ne 20, 3) := by decide +kernel
theorem dX6_unavoidable_128 : decode cX6_unavoidable 128 = .ok (.goto 10, 3) := by decide +kernel
theorem dX6_unavoidable_131 : decode cX6_unavoidable 131 = .ok (.iload 6, 2) := by decide +kernel
theorem dX6_unavoidable_133 : decode cX6_unavoidable 133 = .ok (.iload_n 2, 1) := by decide +kernel
theorem dX6_unavoidable_134 : decode cX6_unavoidable 134 = .ok (.iand, 1) := by decide +kernel
theorem dX6_unavoidable_135 : decode cX6_unavoidable 135 = .ok (.ifCond .eq 10, 3) := by decide +kernel
theorem dX6_unavoidable_138 : decode cX6_unavoidable 138 = .ok (.iload_n 2, 1) := by decide +kernel
theorem dX6_unavoidable_139 : decode cX6_unavoidable 139 = .ok (.iconst 1, 1) := by decide +kernel
theorem dX6_unavoidable_140 : decode cX6_unavoidable 140 = .ok (.iload 5, 2) := by decide +kernel
theorem dX6_unavoidable_142 : decode cX6_unavoidable 142 = .ok (.ishl, 1) := by decide +kernel
theorem dX6_unavoidable_143 : decode cX6_unavoidable 143 = .ok (.ior, 1) := by decide +kernel
theorem dX6_unavoidable_144 : decode cX6_unavoidable 144 = .ok (.istore_n 2, 1) := by decide +kernel
theorem dX6_unavoidable_145 : decode cX6_unavoidable 145 = .ok (.iinc 5 1, 3) := by decide +kernel
theorem dX6_unavoidable_148 : decode cX6_unavoidable 148 = .ok (.goto (-118), 3) := by decide +kernel
theorem dX6_unavoidable_151 : decode cX6_unavoidable 151 = .ok (.iinc 4 1, 3) := by decide +kernel
theorem dX6_unavoidable_154 : decode cX6_unavoidable 154 = .ok (.goto (-141), 3) := by decide +kernel
theorem dX6_unavoidable_157 : decode cX6_unavoidable 157 = .ok (.iload_n 2, 1) := by decide +kernel
theorem dX6_unavoidable_158 : decode cX6_unavoidable 158 = .ok (.ireturn, 1) := by decide +kernel
set_option maxHeartbeats 4000000 in
set_option maxRecDepth 100000 in
theorem c_X6_firstWays (l : Launch) (D : va_G) (g : Nat → ClassId) (sz : Nat) (sv : Nat) (pl : Nat) (n : Nat) (co : Nat) (sv_keep : Nat) (sv_scaled : Nat) (n_nodes : Int32) (n_kind : Nat) (n_pay : Nat) (n_name : Nat) (n_ways : Nat) (n_held : Nat) (n_targets : Nat) (n_weights : Nat) (n_fheld : Nat → Int32) (plf : Nat → Int32) (h_n_nodes : 0 ≤ (n_nodes : Int32).toInt ∧ (n_nodes : Int32).toInt ≤ 12) (h_n_fheld : ∀ j : Nat, (-1) ≤ (n_fheld j).toInt ∧ (n_fheld j).toInt ≤ 2) (h_plf : ∀ j : Nat, 0 ≤ (plf j).toInt ∧ (plf j).toInt ≤ 2) : Met l yX6_firstWays (.code yX6_firstWays cX6_firstWays 3 none :: wsL_law) ({ frames := 0, cells := 0, slots := 0, locals := 0 }) (va_Pc [.ref sv, .ref pl] (fun U => U.heap.size = sz ∧ va_P D vwCl [(sv, .inr (6, [.ref n, .ref co, .ref sv_keep, .ref sv_scaled])), (n, .inr (2, [.int n_nodes, .ref n_kind, .ref n_pay, .ref n_name, .ref n_ways, .ref n_held, .ref n_targets, .ref n_weights])), (n_held, .inl (g 0, 12, .inl n_fheld)), (pl, .inl (g 0, 12, .inl plf))] U.heap ∧ va_K D vwCl (TY g) U ∧ va_D (fun _ => True) [(sv, .inr (6, [.ref n, .ref co, .ref sv_keep, .ref sv_scaled])), (n, .inr (2, [.int n_nodes, .ref n_kind, .ref n_pay, .ref n_name, .ref n_ways, .ref n_held, .ref n_targets, .ref n_weights])), (n_held, .inl (g 0, 12, .inl n_fheld)), (pl, .inl (g 0, 12, .inl plf))])) (va_Qv (fun (_ : Unit) => True) (fun _ t => ∃ opl : Nat → Int32, (∀ j : Nat, 0 ≤ (opl j).toInt ∧ (opl j).toInt ≤ 2) ∧ va_P D vwCl [(sv, .inr (6, [.ref n, .ref co, .ref sv_keep, .ref sv_scaled])), (n, .inr (2, [.int n_nodes, .ref n_kind, .ref n_pay, .ref n_name, .ref n_ways, .ref n_held, .ref n_targets, .ref n_weights])), (n_held, .inl (g 0, 12, .inl n_fheld)), (pl, .inl (g 0, 12, .inl opl))] t.heap ∧ va_D (va_A [(sv, .inr (6, [.ref n, .ref co, .ref sv_keep, .ref sv_scaled])), (n, .inr (2, [.int n_nodes, .ref n_kind, .ref n_pay, .ref n_name, .ref n_ways, .ref n_held, .ref n_targets, .ref n_weights])), (n_held, .inl (g 0, 12, .inl n_fheld)), (pl, .inl (g 0, 12, .inl plf))] sz) [(sv, .inr (6, [.ref n, .ref co, .ref sv_keep, .ref sv_scaled])), (n, .inr (2, [.int n_nodes, .ref n_kind, .ref n_pay, .ref n_name, .ref n_ways, .ref n_held, .ref n_targets, .ref n_weights])), (n_held, .inl (g 0, 12, .inl n_fheld)), (pl, .inl (g 0, 12, .inl opl))]) (va_A [(sv, .inr (6, [.ref n, .ref co, .ref sv_keep, .ref sv_scaled])), (n, .inr (2, [.int n_nodes, .ref n_kind, .ref n_pay, .ref n_name, .ref n_ways, .ref n_held, .ref n_targets, .ref n_weights])), (n_held, .inl (g 0, 12, .inl n_fheld)), (pl, .inl (g 0, 12, .inl plf))] sz)) 0 0 (va_A [(sv, .inr (6, [.ref n, .ref co, .ref sv_keep, .ref sv_scaled])), (n, .inr (2, [.int n_nodes, .ref n_kind, .ref n_pay, .ref n_name, .ref n_ways, .ref n_held, .ref n_targets, .ref n_weights])), (n_held, .inl (g 0, 12, .inl n_fheld)), (pl, .inl (g 0, 12, .inl plf))] sz) := by
  refine Met.ofW (cc := cX6_firstWays) (maxL := 3) (ret := none) (by decide) rfl ?_
  intro p e s m args below meth c s₁ B hml hv
  obtain ⟨ha, hsz, hP, hK, hD0⟩ := hv
  have hx := B.exec
  have hb := B.bytes
  have hr := B.returns
  have hts0 := atoms_spec (ws := (.code yX6_firstWays cX6_firstWays 3 none :: wsL_law)) B.pre
  have hts : ∀ w ∈ wsL_law, w.before args s = true := fun w h => hts0 w (List.mem_cons_of_mem _ h)
  have hown : s.vm.findClass RX6 = some m.cls := findClass_of_methodNamed B.named
  have hlocks := B.notSynchronized
  subst hsz
  have hD := hD0.self (sz := s.heap.size)
  generalize hAe : va_A [(sv, .inr (6, [.ref n, .ref co, .ref sv_keep, .ref sv_scaled])), (n, .inr (2, [.int n_nodes, .ref n_kind, .ref n_pay, .ref n_name, .ref n_ways, .ref n_held, .ref n_targets, .ref n_weights])), (n_held, .inl (g 0, 12, .inl n_fheld)), (pl, .inl (g 0, 12, .inl plf))] s.heap.size = A at hD ⊢
  have hA : ∀ q : Nat, s.heap.size ≤ q → A q := fun q h => by rw [← hAe]; exact Or.inr h
  have hS : va_S A s.heap s.heap [] := va_S.rf
  have hP : va_P D vwCl [(sv, .inr (6, [.ref n, .ref co, .ref sv_keep, .ref sv_scaled])), (n, .inr (2, [.int n_nodes, .ref n_kind, .ref n_pay, .ref n_name, .ref n_ways, .ref n_held, .ref n_targets, .ref n_weights])), (n_held, .inl (g 0, 12, .inl n_fheld)), (pl, .inl (g 0, 12, .inl plf))] s.heap := hP
  refine W.eq (g2 := entryFrame m ([.ref sv, .ref pl] : List Value).toArray 3) (by rw [ha]) ?_
  have hl := lv_entry ([.ref sv, .ref pl]) (n := 3) (Nat.le_of_ble_eq_true rfl)
  rw [lg_entry_eq]
  generalize (lg_sl ([.ref sv, .ref pl]) ++ List.replicate (3 - (lg_sl ([.ref sv, .ref pl])).length) Slot.unset).toArray = ls at hl ⊢
  have hl : lv_has ls 3 [(0, .ref sv), (1, .ref pl)] := hl
  refine lv_iconst (v := 0) hx hb dX6_firstWays_0 (by decide) ?_
  refine lv_istore_n (lv' := [(2, .int 0), (0, .ref sv), (1, .ref pl)]) hx hb dX6_firstWays_1 rfl hl (by decide) rfl (fun ls hl => ?_)
  have lp_89439 : ∀ (n_89439 : Nat) (x_89437 : Int32) (f_89438 : Nat → Int32) (H : Heap) (locs : List Loc) (ls : Array Slot), (0 ≤ (x_89437 : Int32).toInt ∧ (x_89437 : Int32).toInt ≤ 12) → (∀ j : Nat, 0 ≤ (f_89438 j).toInt ∧ (f_89438 j).toInt ≤ 2) → (12 - x_89437.toInt < (n_89439 : Int)) → va_P D vwCl [(sv, .inr (6, [.ref n, .ref co, .ref sv_keep, .ref sv_scaled])), (n, .inr (2, [.int n_nodes, .ref n_kind, .ref n_pay, .ref n_name, .ref n_ways, .ref n_held, .ref n_targets, .ref n_weights])), (n_held, .inl (g 0, 12, .inl n_fheld)), (pl, .inl (g 0, 12, .inl f_89438))] H → va_D A [(sv, .inr (6, [.ref n, .ref co, .ref sv_keep, .ref sv_scaled])), (n, .inr (2, [.int n_nodes, .ref n_kind, .ref n_pay, .ref n_name, .ref n_ways, .ref n_held, .ref n_targets, .ref n_weights])), (n_held, .inl (g 0, 12, .inl n_fheld)), (pl, .inl (g 0, 12, .inl f_89438))] → va_S A s.heap H locs → lv_has ls 3 [(2, .int x_89437), (0, .ref sv), (1, .ref pl)] → W p l e (headSpec (.code yX6_firstWays cX6_firstWays 3 none :: wsL_law) ({ frames := 0, cells := 0, slots := 0, locals := 0 })).room s m args below meth c H locs 0 0 (MQ below (va_Qv (fun (_ : Unit) => True) (fun _ t => ∃ opl : Nat → Int32, (∀ j : Nat, 0 ≤ (opl j).toInt ∧ (opl j).toInt ≤ 2) ∧ va_P D vwCl [(sv, .inr (6, [.ref n, .ref co, .ref sv_keep, .ref sv_scaled])), (n, .inr (2, [.int n_nodes, .ref n_kind, .ref n_pay, .ref n_name, .ref n_ways, .ref n_held, .ref n_targets, .ref n_weights])), (n_held, .inl (g 0, 12, .inl n_fheld)), (pl, .inl (g 0, 12, .inl opl))] t.heap ∧ va_D A [(sv, .inr (6, [.ref n, .ref co, .ref sv_keep, .ref sv_scaled])), (n, .inr (2, [.int n_nodes, .ref n_kind, .ref n_pay, .ref n_name, .ref n_ways, .ref n_held, .ref n_targets, .ref n_weights])), (n_held, .inl (g 0, 12, .inl n_fheld)), (pl, .inl (g 0, 12, .inl opl))]) A) args s 0 0 A) (F0 m 2 ls []) := by
    intro n_89439
    induction n_89439 with
    | zero =>
      intro x_89437 f_89438 H locs ls h_x_89437 h_f_89438 hm_89439 hP hD hS hl
      exfalso; omega
    | succ n_89439 ih_89439 =>
      intro x_89437 f_89438 H locs ls h_x_89437 h_f_89438 hm_89439 hP hD hS hl
      refine lv_iload_n hx hb dX6_firstWays_2 rfl (lv_at hl 0 rfl) ?_
      refine lv_aload_n hx hb dX6_firstWays_3 rfl (lv_at hl 1 rfl) ?_
      refine va_get (D := D) (ci := 6) (v := .ref n) (C := RX6) (T := TX6) (N := 4) hx hb hts inlX6 hown hK hP 0 rfl rfl 0 (by decide) (hts (Cond.fieldLink RX6 19 "ChanceRings$Solver" "net" "LChanceRings$Net;") qw_548) (fun _ h9 => h9) rfl dX6_firstWays_4 ?_
      refine va_get (D := D) (ci := 2) (v := .int n_nodes) (C := RX2) (T := TX2) (N := 8) hx hb hts inlX2 hown hK hP 1 rfl rfl 0 (by decide) (hts (Cond.fieldLink RX6 32 "ChanceRings$Net" "nodes" "I") qw_549) (fun _ h9 => h9) rfl dX6_firstWays_7 ?_
      refine lv_icmp_ge (tgt := 48) hx hb dX6_firstWays_10 (by decide) (fun c_89440 => ?_) (fun c_89440 => ?_)
      · skip
        have hP9 := hP.sub (ws' := [(sv, .inr (6, [.ref n, .ref co, .ref sv_keep, .ref sv_scaled])), (n, .inr (2, [.int n_nodes, .ref n_kind, .ref n_pay, .ref n_name, .ref n_ways, .ref n_held, .ref n_targets, .ref n_weights])), (n_held, .inl (g 0, 12, .inl n_fheld)), (pl, .inl (g 0, 12, .inl f_89438))]) [0, 1, 2, 3] rfl
        have hD9 := hD.sub (ws' := [(sv, .inr (6, [.ref n, .ref co, .ref sv_keep, .ref sv_scaled])), (n, .inr (2, [.int n_nodes, .ref n_kind, .ref n_pay, .ref n_name, .ref n_ways, .ref n_held, .ref n_targets, .ref n_weights])), (n_held, .inl (g 0, 12, .inl n_fheld)), (pl, .inl (g 0, 12, .inl f_89438))]) [0, 1, 2, 3] (by decide) rfl
        exact W.vret hx hb hr (fun t ht hW => ⟨⟨(), rfl, trivial, f_89438, (tr_wa h_f_89438 (by decide) (by decide)), by rw [ht]; exact hP9, hD9⟩, hS.F ht⟩) hS.2.2 dX6_firstWays_48
      · skip
        have c_89440_i := Int32.lt_iff_toInt_lt.mp (Int32.not_le.mp c_89440)
        have h_89441 : 0 ≤ (x_89437 : Int32).toInt ∧ (x_89437 : Int32).toInt ≤ 11 := by have q1 := h_x_89437; have q2 := h_n_nodes; omega
        have h_89442 : 1 ≤ (n_nodes : Int32).toInt ∧ (n_nodes : Int32).toInt ≤ 12 := by have q1 := h_x_89437; have q2 := h_n_nodes; omega
        refine lv_aload_n hx hb dX6_firstWays_13 rfl (lv_at hl 2 rfl) ?_
        refine lv_iload_n hx hb dX6_firstWays_14 rfl (lv_at hl 0 rfl) ?_
        refine lv_aload_n hx hb dX6_firstWays_15 rfl (lv_at hl 1 rfl) ?_
        refine va_get (D := D) (ci := 6) (v := .ref n) (C := RX6) (T := TX6) (N := 4) hx hb hts inlX6 hown hK hP 0 rfl rfl 0 (by decide) (hts (Cond.fieldLink RX6 19 "ChanceRings$Solver" "net" "LChanceRings$Net;") qw_548) (fun _ h9 => h9) rfl dX6_firstWays_16 ?_
        refine va_get (D := D) (ci := 2) (v := .ref n_held) (C := RX2) (T := TX2) (N := 8) hx hb hts inlX2 hown hK hP 1 rfl rfl 5 (by decide) (hts (Cond.fieldLink RX6 38 "ChanceRings$Net" "held" "[I") qw_550) (fun _ h9 => h9) rfl dX6_firstWays_19 ?_
        refine lv_iload_n hx hb dX6_firstWays_22 rfl (lv_at hl 0 rfl) ?_
        refine va_iald hx hb hK hP 2 0 rfl rfl (tr_in h_89441 (by decide) (by decide)) dX6_firstWays_23 ?_
        refine lv_topi (fun v_89443 v_89443_e => ?_)
        have h_v_89443 : (-1) ≤ (v_89443 : Int32).toInt ∧ (v_89443 : Int32).toInt ≤ 2 := by rw [v_89443_e]; exact h_n_fheld _
        refine lv_iconst (v := (-1)) hx hb dX6_firstWays_24 (by decide) ?_
        refine lv_icmp_ne (tgt := 32) hx hb dX6_firstWays_25 (by decide) (fun c_89444 => ?_) (fun c_89444 => ?_)
        · skip
          have c_89444_i := c_89444
          have c_89444_i : ¬ (v_89443 : Int32).toInt = ((-1) : Int32).toInt := (fun q => c_89444 (Int32.toInt_inj.mp q))
          have h_89445 : 0 ≤ (v_89443 : Int32).toInt ∧ (v_89443 : Int32).toInt ≤ 2 := by have q1 := h_v_89443; have q2 := (⟨by decide, by decide⟩ : (-1) ≤ ((-1) : Int32).toInt ∧ ((-1) : Int32).toInt ≤ (-1)); omega
          refine lv_aload_n hx hb dX6_firstWays_32 rfl (lv_at hl 1 rfl) ?_
          refine va_get (D := D) (ci := 6) (v := .ref n) (C := RX6) (T := TX6) (N := 4) hx hb hts inlX6 hown hK hP 0 rfl rfl 0 (by decide) (hts (Cond.fieldLink RX6 19 "ChanceRings$Solver" "net" "LChanceRings$Net;") qw_548) (fun _ h9 => h9) rfl dX6_firstWays_33 ?_
          refine va_get (D := D) (ci := 2) (v := .ref n_held) (C := RX2) (T := TX2) (N := 8) hx hb hts inlX2 hown hK hP 1 rfl rfl 5 (by decide) (hts (Cond.fieldLink RX6 38 "ChanceRings$Net" "held" "[I") qw_550) (fun _ h9 => h9) rfl dX6_firstWays_36 ?_
          refine lv_iload_n hx hb dX6_firstWays_39 rfl (lv_at hl 0 rfl) ?_
          refine va_iald hx hb hK hP 2 0 rfl rfl (tr_in h_89441 (by decide) (by decide)) dX6_firstWays_40 ?_
          refine tz_i (y := v_89443) v_89443_e.symm ?_
          refine va_iast hx hb hK hP hD hS 3 0 rfl rfl (tr_in h_89441 (by decide) (by decide)) dX6_firstWays_41 (fun H locs hP hD hS => ?_)
          obtain ⟨f_89447, h_f_89447, hP, hD⟩ : ∃ FX : Nat → Int32, (∀ j : Nat, 0 ≤ (FX j).toInt ∧ (FX j).toInt ≤ 2) ∧ va_P D vwCl [(sv, .inr (6, [.ref n, .ref co, .ref sv_keep, .ref sv_scaled])), (n, .inr (2, [.int n_nodes, .ref n_kind, .ref n_pay, .ref n_name, .ref n_ways, .ref n_held, .ref n_targets, .ref n_weights])), (n_held, .inl (g 0, 12, .inl n_fheld)), (pl, .inl (g 0, 12, .inl FX))] H ∧ va_D A [(sv, .inr (6, [.ref n, .ref co, .ref sv_keep, .ref sv_scaled])), (n, .inr (2, [.int n_nodes, .ref n_kind, .ref n_pay, .ref n_name, .ref n_ways, .ref n_held, .ref n_targets, .ref n_weights])), (n_held, .inl (g 0, 12, .inl n_fheld)), (pl, .inl (g 0, 12, .inl FX))] := ⟨_, tr_upd h_f_89438 (tr_w h_89445 (by decide) (by decide)), hP, hD⟩
          have hP : va_P D vwCl [(sv, .inr (6, [.ref n, .ref co, .ref sv_keep, .ref sv_scaled])), (n, .inr (2, [.int n_nodes, .ref n_kind, .ref n_pay, .ref n_name, .ref n_ways, .ref n_held, .ref n_targets, .ref n_weights])), (n_held, .inl (g 0, 12, .inl n_fheld)), (pl, .inl (g 0, 12, .inl f_89447))] H := hP
          have hD : va_D A [(sv, .inr (6, [.ref n, .ref co, .ref sv_keep, .ref sv_scaled])), (n, .inr (2, [.int n_nodes, .ref n_kind, .ref n_pay, .ref n_name, .ref n_ways, .ref n_held, .ref n_targets, .ref n_weights])), (n_held, .inl (g 0, 12, .inl n_fheld)), (pl, .inl (g 0, 12, .inl f_89447))] := hD
          obtain ⟨v_89448, v_89448_e⟩ : ∃ y : Int32, y = x_89437 + Int32.ofInt 1 := ⟨_, rfl⟩
          have h_v_89448 : 1 ≤ (v_89448 : Int32).toInt ∧ (v_89448 : Int32).toInt ≤ 12 := by rw [v_89448_e]; exact tr_add h_89441 (⟨by decide, by decide⟩ : 1 ≤ (Int32.ofInt 1 : Int32).toInt ∧ (Int32.ofInt 1 : Int32).toInt ≤ 1) (by decide) (by decide) (by decide) (by decide)
          have q_v_89448 : v_89448.toInt = x_89437.toInt + 1 := by rw [v_89448_e]; exact tr_addE h_89441 (⟨by decide, by decide⟩ : 1 ≤ (Int32.ofInt 1 : Int32).toInt ∧ (Int32.ofInt 1 : Int32).toInt ≤ 1) (by decide) (by decide)
          refine lv_iinc (v := v_89448) (lv' := [(2, .int v_89448), (0, .ref sv), (1, .ref pl)]) hx hb dX6_firstWays_42 hl (k := 0) rfl v_89448_e.symm (by decide) rfl (fun ls hl => ?_)
          refine lv_goto (tgt := 2) hx hb dX6_firstWays_45 (by decide) ?_
          exact ih_89439 v_89448 f_89447 H _ ls (tr_w h_v_89448 (by decide) (by decide)) (tr_wa h_f_89447 (by decide) (by decide)) (by omega) (hP.sub [0, 1, 2, 3] rfl) (hD.sub [0, 1, 2, 3] (by decide) rfl) hS (lv_sub hl [0, 1, 2] rfl)
        · skip
          have c_89444_i := c_89444
          have c_89444_i : (v_89443 : Int32).toInt = ((-1) : Int32).toInt := congrArg Int32.toInt c_89444
          have h_89446 : (-1) ≤ (v_89443 : Int32).toInt ∧ (v_89443 : Int32).toInt ≤ (-1) := by have q1 := h_v_89443; have q2 := (⟨by decide, by decide⟩ : (-1) ≤ ((-1) : Int32).toInt ∧ ((-1) : Int32).toInt ≤ (-1)); omega
          refine lv_iconst (v := 0) hx hb dX6_firstWays_28 (by decide) ?_
          refine lv_goto (tgt := 41) hx hb dX6_firstWays_29 (by decide) ?_
          refine va_iast hx hb hK hP hD hS 3 0 rfl rfl (tr_in h_89441 (by decide) (by decide)) dX6_firstWays_41 (fun H locs hP hD hS => ?_)
          obtain ⟨f_89449, h_f_89449, hP, hD⟩ : ∃ FX : Nat → Int32, (∀ j : Nat, 0 ≤ (FX j).toInt ∧ (FX j).toInt ≤ 2) ∧ va_P D vwCl [(sv, .inr (6, [.ref n, .ref co, .ref sv_keep, .ref sv_scaled])), (n, .inr (2, [.int n_nodes, .ref n_kind, .ref n_pay, .ref n_name, .ref n_ways, .ref n_held, .ref n_targets, .ref n_weights])), (n_held, .inl (g 0, 12, .inl n_fheld)), (pl, .inl (g 0, 12, .inl FX))] H ∧ va_D A [(sv, .inr (6, [.ref n, .ref co, .ref sv_keep, .ref sv_scaled])), (n, .inr (2, [.int n_nodes, .ref n_kind, .ref n_pay, .ref n_name, .ref n_ways, .ref n_held, .ref n_targets, .ref n_weights])), (n_held, .inl (g 0, 12, .inl n_fheld)), (pl, .inl (g 0, 12, .inl FX))] := ⟨_, tr_upd h_f_89438 (⟨by decide, by decide⟩ : 0 ≤ (0 : Int32).toInt ∧ (0 : Int32).toInt ≤ 2), hP, hD⟩
          have hP : va_P D vwCl [(sv, .inr (6, [.ref n, .ref co, .ref sv_keep, .ref sv_scaled])), (n, .inr (2, [.int n_nodes, .ref n_kind, .ref n_pay, .ref n_name, .ref n_ways, .ref n_held, .ref n_targets, .ref n_weights])), (n_held, .inl (g 0, 12, .inl n_fheld)), (pl, .inl (g 0, 12, .inl f_89449))] H := hP
          have hD : va_D A [(sv, .inr (6, [.ref n, .ref co, .ref sv_keep, .ref sv_scaled])), (n, .inr (2, [.int n_nodes, .ref n_kind, .ref n_pay, .ref n_name, .ref n_ways, .ref n_held, .ref n_targets, .ref n_weights])), (n_held, .inl (g 0, 12, .inl n_fheld)), (pl, .inl (g 0, 12, .inl f_89449))] := hD
          obtain ⟨v_89450, v_89450_e⟩ : ∃ y : Int32, y = x_89437 + Int32.ofInt 1 := ⟨_, rfl⟩
          have h_v_89450 : 1 ≤ (v_89450 : Int32).toInt ∧ (v_89450 : Int32).toInt ≤ 12 := by rw [v_89450_e]; exact tr_add h_89441 (⟨by decide, by decide⟩ : 1 ≤ (Int32.ofInt 1 : Int32).toInt ∧ (Int32.ofInt 1 : Int32).toInt ≤ 1) (by decide) (by decide) (by decide) (by decide)
          have q_v_89450 : v_89450.toInt = x_89437.toInt + 1 := by rw [v_89450_e]; exact tr_addE h_89441 (⟨by decide, by decide⟩ : 1 ≤ (Int32.ofInt 1 : Int32).toInt ∧ (Int32.ofInt 1 : Int32).toInt ≤ 1) (by decide) (by decide)
          refine lv_iinc (v := v_89450) (lv' := [(2, .int v_89450), (0, .ref sv), (1, .ref pl)]) hx hb dX6_firstWays_42 hl (k := 0) rfl v_89450_e.symm (by decide) rfl (fun ls hl => ?_)
          refine lv_goto (tgt := 2) hx hb dX6_firstWays_45 (by decide) ?_
          exact ih_89439 v_89450 f_89449 H _ ls (tr_w h_v_89450 (by decide) (by decide)) (tr_wa h_f_89449 (by decide) (by decide)) (by omega) (hP.sub [0, 1, 2, 3] rfl) (hD.sub [0, 1, 2, 3] (by decide) rfl) hS (lv_sub hl [0, 1, 2] rfl)
  exact lp_89439 13 0 plf s.heap _ ls (⟨by decide, by decide⟩ : 0 ≤ (0 : Int32).toInt ∧ (0 : Int32).toInt ≤ 12) (tr_wa h_plf (by decide) (by decide)) (by decide) (hP.sub [0, 1, 2, 3] rfl) (hD.sub [0, 1, 2, 3] (by decide) rfl) hS (lv_sub hl [0, 1, 2] rfl)
set_option maxHeartbeats 4000000 in
set_option maxRecDepth 100000 in
theorem c_X6_betterWay (l : Launch) (D : va_G) (g : Nat → ClassId) (sv : Nat) (p0 : Int32) (p1 : Int32) (vs : Nat) (n : Nat) (co : Nat) (sv_keep : Nat) (sv_scaled : Nat) (n_nodes : Int32) (n_kind : Nat) (n_pay : Nat) (n_name : Nat) (n_ways : Nat) (n_held : Nat) (n_targets : Nat) (n_weights : Nat) (n_fkind : Nat → Int32) (n_fways : Nat → Int32) (n_ftargets : Nat → Int32) (vs_part : Nat) (vsw : Int64) (vsp : Nat → Int64) (h_p0 : 0 ≤ (p0 : Int32).toInt ∧ (p0 : Int32).toInt ≤ 11) (h_p1 : 0 ≤ (p1 : Int32).toInt ∧ (p1 : Int32).toInt ≤ 2) (h_n_nodes : 0 ≤ (n_nodes : Int32).toInt ∧ (n_nodes : Int32).toInt ≤ 12) (h_n_fkind : ∀ j : Nat, 0 ≤ (n_fkind j).toInt ∧ (n_fkind j).toInt ≤ 3) (h_n_fways : ∀ j : Nat, 0 ≤ (n_fways j).toInt ∧ (n_fways j).toInt ≤ 3) (h_n_ftargets : ∀ j : Nat, 0 ≤ (n_ftargets j).toInt ∧ (n_ftargets j).toInt ≤ 11) : Met l yX6_betterWay (.code yX6_betterWay cX6_betterWay 9 (some .int) :: wsL_law) ({ frames := 1, cells := 0, slots := 0, locals := 22 }) (va_Pc [.ref sv, .int p0, .int p1, .ref vs] (fun U => va_P D vwCl [(sv, .inr (6, [.ref n, .ref co, .ref sv_keep, .ref sv_scaled])), (n, .inr (2, [.int n_nodes, .ref n_kind, .ref n_pay, .ref n_name, .ref n_ways, .ref n_held, .ref n_targets, .ref n_weights])), (n_kind, .inl (g 0, 12, .inl n_fkind)), (n_ways, .inl (g 0, 12, .inl n_fways)), (n_targets, .inl (g 0, 36, .inl n_ftargets)), (vs, .inr (10, [.ref vs_part, .long vsw])), (vs_part, .inl (g 1, 12, .inr (.inl vsp)))] U.heap ∧ va_K D vwCl (TY g) U)) (vp_Si (fun r => 0 ≤ (r : Int32).toInt ∧ (r : Int32).toInt ≤ 2)) 0 0 (fun _ => False) := by
  refine Met.ofW (cc := cX6_betterWay) (maxL := 9) (ret := (some .int)) (by decide) rfl ?_
  intro p e s m args below meth c s₁ B hml hv
  obtain ⟨ha, hP, hK⟩ := hv
  have hx := B.exec
  have hb := B.bytes
  have hr := B.returns
  have hts0 := atoms_spec (ws := (.code yX6_betterWay cX6_betterWay 9 (some .int) :: wsL_law)) B.pre
  have hts : ∀ w ∈ wsL_law, w.before args s = true := fun w h => hts0 w (List.mem_cons_of_mem _ h)
  have hown : s.vm.findClass RX6 = some m.cls := findClass_of_methodNamed B.named
  have hlocks := B.notSynchronized
  have hP : va_P D vwCl [(sv, .inr (6, [.ref n, .ref co, .ref sv_keep, .ref sv_scaled])), (n, .inr (2, [.int n_nodes, .ref n_kind, .ref n_pay, .ref n_name, .ref n_ways, .ref n_held, .ref n_targets, .ref n_weights])), (n_kind, .inl (g 0, 12, .inl n_fkind)), (n_ways, .inl (g 0, 12, .inl n_fways)), (n_targets, .inl (g 0, 36, .inl n_ftargets)), (vs, .inr (10, [.ref vs_part, .long vsw])), (vs_part, .inl (g 1, 12, .inr (.inl vsp)))] s.heap := hP
  refine W.eq (g2 := entryFrame m ([.ref sv, .int p0, .int p1, .ref vs] : List Value).toArray 9) (by rw [ha]) ?_
  have hl := lv_entry ([.ref sv, .int p0, .int p1, .ref vs]) (n := 9) (Nat.le_of_ble_eq_true rfl)
  rw [lg_entry_eq]
  generalize (lg_sl ([.ref sv, .int p0, .int p1, .ref vs]) ++ List.replicate (9 - (lg_sl ([.ref sv, .int p0, .int p1, .ref vs])).length) Slot.unset).toArray = ls at hl ⊢
  have hl : lv_has ls 9 [(0, .ref sv), (1, .int p0), (2, .int p1), (3, .ref vs)] := hl
  refine lv_aload_n hx hb dX6_betterWay_0 rfl (lv_at hl 0 rfl) ?_
  refine va_get (D := D) (ci := 6) (v := .ref n) (C := RX6) (T := TX6) (N := 4) hx hb hts inlX6 hown hK hP 0 rfl rfl 0 (by decide) (hts (Cond.fieldLink RX6 19 "ChanceRings$Solver" "net" "LChanceRings$Net;") qw_548) (fun _ h9 => h9) rfl dX6_betterWay_1 ?_
  refine va_get (D := D) (ci := 2) (v := .ref n_kind) (C := RX2) (T := TX2) (N := 8) hx hb hts inlX2 hown hK hP 1 rfl rfl 1 (by decide) (hts (Cond.fieldLink RX6 61 "ChanceRings$Net" "kind" "[I") qw_551) (fun _ h9 => h9) rfl dX6_betterWay_4 ?_
  refine lv_iload_n hx hb dX6_betterWay_7 rfl (lv_at hl 1 rfl) ?_
  refine va_iald hx hb hK hP 2 0 rfl rfl (tr_in h_p0 (by decide) (by decide)) dX6_betterWay_8 ?_
  refine lv_topi (fun v_89451 v_89451_e => ?_)
  have h_v_89451 : 0 ≤ (v_89451 : Int32).toInt ∧ (v_89451 : Int32).toInt ≤ 3 := by rw [v_89451_e]; exact h_n_fkind _
  refine lv_iconst (v := 1) hx hb dX6_betterWay_9 (by decide) ?_
  refine lv_icmp_ne (tgt := 17) hx hb dX6_betterWay_10 (by decide) (fun c_89452 => ?_) (fun c_89452 => ?_)
  · skip
    refine lv_iconst (v := (-1)) hx hb dX6_betterWay_17 (by decide) ?_
    refine lv_istore (lv' := [(4, .int (-1)), (0, .ref sv), (1, .int p0), (2, .int p1), (3, .ref vs)]) hx hb dX6_betterWay_18 hl (by decide) rfl (fun ls hl => ?_)
    refine lv_iload_n hx hb dX6_betterWay_20 rfl (lv_at hl 3 rfl) ?_
    refine lv_istore (lv' := [(5, .int p1), (4, .int (-1)), (0, .ref sv), (1, .int p0), (2, .int p1), (3, .ref vs)]) hx hb dX6_betterWay_21 hl (by decide) rfl (fun ls hl => ?_)
    refine lv_iconst (v := 0) hx hb dX6_betterWay_23 (by decide) ?_
    refine lv_istore (lv' := [(6, .int 0), (5, .int p1), (4, .int (-1)), (0, .ref sv), (1, .int p0), (2, .int p1), (3, .ref vs)]) hx hb dX6_betterWay_24 hl (by decide) rfl (fun ls hl => ?_)
    have lp_89532 : ∀ (n_89532 : Nat) (x_89530 : Int32) (x_89531 : Int32) (ls : Array Slot), (0 ≤ (x_89530 : Int32).toInt ∧ (x_89530 : Int32).toInt ≤ 3) → (0 ≤ (x_89531 : Int32).toInt ∧ (x_89531 : Int32).toInt ≤ 2) → (3 - x_89530.toInt < (n_89532 : Int)) → lv_has ls 9 [(6, .int x_89530), (5, .int x_89531), (4, .int (-1)), (0, .ref sv), (1, .int p0), (2, .int p1), (3, .ref vs)] → W p l e (headSpec (.code yX6_betterWay cX6_betterWay 9 (some .int) :: wsL_law) ({ frames := 1, cells := 0, slots := 0, locals := 22 })).room s m args below meth c s.heap [] 0 0 (MQ below (vp_Si (fun r => 0 ≤ (r : Int32).toInt ∧ (r : Int32).toInt ≤ 2)) args s 0 0 (fun _ => False)) (F0 m 26 ls []) := by
      intro n_89532
      induction n_89532 with
      | zero =>
        intro x_89530 x_89531 ls h_x_89530 h_x_89531 hm_89532 hl
        exfalso; omega
      | succ n_89532 ih_89532 =>
        intro x_89530 x_89531 ls h_x_89530 h_x_89531 hm_89532 hl
        refine lv_iload hx hb dX6_betterWay_26 (lv_at hl 0 rfl) ?_
        refine lv_aload_n hx hb dX6_betterWay_28 rfl (lv_at hl 3 rfl) ?_
        refine va_get (D := D) (ci := 6) (v := .ref n) (C := RX6) (T := TX6) (N := 4) hx hb hts inlX6 hown hK hP 0 rfl rfl 0 (by decide) (hts (Cond.fieldLink RX6 19 "ChanceRings$Solver" "net" "LChanceRings$Net;") qw_548) (fun _ h9 => h9) rfl dX6_betterWay_29 ?_
        refine va_get (D := D) (ci := 2) (v := .ref n_ways) (C := RX2) (T := TX2) (N := 8) hx hb hts inlX2 hown hK hP 1 rfl rfl 4 (by decide) (hts (Cond.fieldLink RX6 68 "ChanceRings$Net" "ways" "[I") qw_552) (fun _ h9 => h9) rfl dX6_betterWay_32 ?_
        refine lv_iload_n hx hb dX6_betterWay_35 rfl (lv_at hl 4 rfl) ?_
        refine va_iald hx hb hK hP 3 0 rfl rfl (tr_in h_p0 (by decide) (by decide)) dX6_betterWay_36 ?_
        refine lv_topi (fun v_89533 v_89533_e => ?_)
        have h_v_89533 : 0 ≤ (v_89533 : Int32).toInt ∧ (v_89533 : Int32).toInt ≤ 3 := by rw [v_89533_e]; exact h_n_fways _
        refine lv_icmp_ge (tgt := 94) hx hb dX6_betterWay_37 (by decide) (fun c_89534 => ?_) (fun c_89534 => ?_)
        · skip
          refine lv_iload hx hb dX6_betterWay_94 (lv_at hl 1 rfl) ?_
          exact W.iret (v := x_89531) hx hb hr (fun t ht hW => ⟨x_89531, rfl, (tr_w h_x_89531 (by decide) (by decide)), ht⟩) (fun _ h => nomatch h) dX6_betterWay_96
        · skip
          have c_89534_i := Int32.lt_iff_toInt_lt.mp (Int32.not_le.mp c_89534)
          have h_89535 : 0 ≤ (x_89530 : Int32).toInt ∧ (x_89530 : Int32).toInt ≤ 2 := by have q1 := h_x_89530; have q2 := h_v_89533; omega
          have h_89536 : 1 ≤ (v_89533 : Int32).toInt ∧ (v_89533 : Int32).toInt ≤ 3 := by have q1 := h_x_89530; have q2 := h_v_89533; omega
          refine lv_aload_n hx hb dX6_betterWay_40 rfl (lv_at hl 6 rfl) ?_
          refine va_get (D := D) (ci := 10) (v := .ref vs_part) (C := RX10) (T := TX10) (N := 2) hx hb hts inlX10 hown hK hP 5 rfl rfl 0 (by decide) (hts (Cond.fieldLink RX6 71 "ChanceRings$Values" "part" "[J") qw_553) (fun _ h9 => h9) rfl dX6_betterWay_41 ?_
          refine lv_aload_n hx hb dX6_betterWay_44 rfl (lv_at hl 3 rfl) ?_
          refine va_get (D := D) (ci := 6) (v := .ref n) (C := RX6) (T := TX6) (N := 4) hx hb hts inlX6 hown hK hP 0 rfl rfl 0 (by decide) (hts (Cond.fieldLink RX6 19 "ChanceRings$Solver" "net" "LChanceRings$Net;") qw_548) (fun _ h9 => h9) rfl dX6_betterWay_45 ?_
          refine lv_iload_n hx hb dX6_betterWay_48 rfl (lv_at hl 4 rfl) ?_
          refine lv_iload hx hb dX6_betterWay_49 (lv_at hl 0 rfl) ?_
          have hPc := hP.sub (ws' := [(n, .inr (2, [.int n_nodes, .ref n_kind, .ref n_pay, .ref n_name, .ref n_ways, .ref n_held, .ref n_targets, .ref n_weights])), (n_targets, .inl (g 0, 36, .inl n_ftargets))]) [1, 4] rfl
          refine vp_callSi (va_Run.run (va_runV (As := [.int p0, .int x_89530]) (rest := [.ref vs_part]) ⟨hx, hb, hml, hown, hts⟩ (c_X2_target l D g n p0 x_89530 n_nodes n_kind n_pay n_name n_ways n_held n_targets n_weights n_ftargets (tr_w h_p0 (by decide) (by decide)) (tr_w h_89535 (by decide) (by decide)) (tr_w h_n_nodes (by decide) (by decide)) (tr_wa h_n_ftargets (by decide) (by decide))) (cwV 2 hts (tz_gV qw_554 qw_325 qw_326 qw_322 qw_327) rfl rfl rfl (by decide +kernel) ⟨Nat.le_of_ble_eq_true rfl, Nat.le_of_ble_eq_true rfl⟩) ⟨tz_blS, va_recv hK hPc (ci := 2) (q0 := 0) rfl rfl, tz_preS hPc hK⟩ rfl rfl hl.1 rfl (lv_room (Nat.le_of_ble_eq_true rfl)) dX6_betterWay_51 ⟨Nat.le_of_ble_eq_true rfl, Nat.le_of_ble_eq_true rfl⟩)) (fun r_89537 hw => ?_)
          have hw_89538 : 0 ≤ (r_89537 : Int32).toInt ∧ (r_89537 : Int32).toInt ≤ 11 := hw
          refine va_lald hx hb hK hP 6 1 rfl rfl (tr_in hw_89538 (by decide) (by decide)) dX6_betterWay_54 ?_
          refine lv_topl (fun w_89539 _ => ?_)
          refine lv_aload_n hx hb dX6_betterWay_55 rfl (lv_at hl 6 rfl) ?_
          refine va_get (D := D) (ci := 10) (v := .ref vs_part) (C := RX10) (T := TX10) (N := 2) hx hb hts inlX10 hown hK hP 5 rfl rfl 0 (by decide) (hts (Cond.fieldLink RX6 71 "ChanceRings$Values" "part" "[J") qw_553) (fun _ h9 => h9) rfl dX6_betterWay_56 ?_
          refine lv_aload_n hx hb dX6_betterWay_59 rfl (lv_at hl 3 rfl) ?_
          refine va_get (D := D) (ci := 6) (v := .ref n) (C := RX6) (T := TX6) (N := 4) hx hb hts inlX6 hown hK hP 0 rfl rfl 0 (by decide) (hts (Cond.fieldLink RX6 19 "ChanceRings$Solver" "net" "LChanceRings$Net;") qw_548) (fun _ h9 => h9) rfl dX6_betterWay_60 ?_
          refine lv_iload_n hx hb dX6_betterWay_63 rfl (lv_at hl 4 rfl) ?_
          refine lv_iload hx hb dX6_betterWay_64 (lv_at hl 1 rfl) ?_
          have hPc := hP.sub (ws' := [(n, .inr (2, [.int n_nodes, .ref n_kind, .ref n_pay, .ref n_name, .ref n_ways, .ref n_held, .ref n_targets, .ref n_weights])), (n_targets, .inl (g 0, 36, .inl n_ftargets))]) [1, 4] rfl
          refine vp_callSi (va_Run.run (va_runV (As := [.int p0, .int x_89531]) (rest := [.ref vs_part, .long w_89539]) ⟨hx, hb, hml, hown, hts⟩ (c_X2_target l D g n p0 x_89531 n_nodes n_kind n_pay n_name n_ways n_held n_targets n_weights n_ftargets (tr_w h_p0 (by decide) (by decide)) (tr_w h_x_89531 (by decide) (by decide)) (tr_w h_n_nodes (by decide) (by decide)) (tr_wa h_n_ftargets (by decide) (by decide))) (cwV 2 hts (tz_gV qw_554 qw_325 qw_326 qw_322 qw_327) rfl rfl rfl (by decide +kernel) ⟨Nat.le_of_ble_eq_true rfl, Nat.le_of_ble_eq_true rfl⟩) ⟨tz_blS, va_recv hK hPc (ci := 2) (q0 := 0) rfl rfl, tz_preS hPc hK⟩ rfl rfl hl.1 rfl (lv_room (Nat.le_of_ble_eq_true rfl)) dX6_betterWay_66 ⟨Nat.le_of_ble_eq_true rfl, Nat.le_of_ble_eq_true rfl⟩)) (fun r_89540 hw => ?_)
          have hw_89541 : 0 ≤ (r_89540 : Int32).toInt ∧ (r_89540 : Int32).toInt ≤ 11 := hw
          refine va_lald hx hb hK hP 6 1 rfl rfl (tr_in hw_89541 (by decide) (by decide)) dX6_betterWay_69 ?_
          refine lv_topl (fun w_89542 _ => ?_)
          refine lv_lsub hx hb dX6_betterWay_70 ?_
          refine lv_topl (fun w_89543 _ => ?_)
          refine lv_lstore (lv' := [(7, .long w_89543), (6, .int x_89530), (5, .int x_89531), (4, .int (-1)), (0, .ref sv), (1, .int p0), (2, .int p1), (3, .ref vs)]) hx hb dX6_betterWay_71 hl (by decide) rfl (fun ls hl => ?_)
          refine lv_iload hx hb dX6_betterWay_73 (lv_at hl 3 rfl) ?_
          refine lv_i2l (v := (-1)) hx hb dX6_betterWay_75 (by decide +kernel) ?_
          refine lv_lload hx hb dX6_betterWay_76 (lv_at hl 0 rfl) ?_
          refine lv_lmul hx hb dX6_betterWay_78 ?_
          refine lv_topl (fun w_89544 _ => ?_)
          refine lv_lconst (v := 0) hx hb dX6_betterWay_79 (by decide) ?_
          refine W.lcmp hx hb dX6_betterWay_80 ?_
          refine lv_topi (fun v_89545 v_89545_e => ?_)
          have h_v_89545 : (-1) ≤ (v_89545 : Int32).toInt ∧ (v_89545 : Int32).toInt ≤ 1 := by rw [v_89545_e]; exact tr_cmp _ _
          refine lv_if_le (tgt := 88) hx hb dX6_betterWay_81 (by decide) (fun c_89546 => ?_) (fun c_89546 => ?_)
          · skip
            have c_89546_i := Int32.le_iff_toInt_le.mp c_89546
            have h_89547 : (-1) ≤ (v_89545 : Int32).toInt ∧ (v_89545 : Int32).toInt ≤ 0 := by have q1 := h_v_89545; have q2 := (⟨by decide, by decide⟩ : 0 ≤ (0 : Int32).toInt ∧ (0 : Int32).toInt ≤ 0); omega
            obtain ⟨v_89549, v_89549_e⟩ : ∃ y : Int32, y = x_89530 + Int32.ofInt 1 := ⟨_, rfl⟩
            have h_v_89549 : 1 ≤ (v_89549 : Int32).toInt ∧ (v_89549 : Int32).toInt ≤ 3 := by rw [v_89549_e]; exact tr_add h_89535 (⟨by decide, by decide⟩ : 1 ≤ (Int32.ofInt 1 : Int32).toInt ∧ (Int32.ofInt 1 : Int32).toInt ≤ 1) (by decide) (by decide) (by decide) (by decide)
            have q_v_89549 : v_89549.toInt = x_89530.toInt + 1 := by rw [v_89549_e]; exact tr_addE h_89535 (⟨by decide, by decide⟩ : 1 ≤ (Int32.ofInt 1 : Int32).toInt ∧ (Int32.ofInt 1 : Int32).toInt ≤ 1) (by decide) (by decide)
            refine lv_iinc (v := v_89549) (lv' := [(6, .int v_89549), (7, .long w_89543), (5, .int x_89531), (4, .int (-1)), (0, .ref sv), (1, .int p0), (2, .int p1), (3, .ref vs)]) hx hb dX6_betterWay_88 hl (k := 1) rfl v_89549_e.symm (by decide) rfl (fun ls hl => ?_)
            refine lv_goto (tgt := 26) hx hb dX6_betterWay_91 (by decide) ?_
            exact ih_89532 v_89549 x_89531 ls (tr_w h_v_89549 (by decide) (by decide)) (tr_w h_x_89531 (by decide) (by decide)) (by omega) (lv_sub hl [0, 2, 3, 4, 5, 6, 7] rfl)
          · skip
            have c_89546_i := Int32.lt_iff_toInt_lt.mp (Int32.not_le.mp c_89546)
            have h_89548 : 1 ≤ (v_89545 : Int32).toInt ∧ (v_89545 : Int32).toInt ≤ 1 := by have q1 := h_v_89545; have q2 := (⟨by decide, by decide⟩ : 0 ≤ (0 : Int32).toInt ∧ (0 : Int32).toInt ≤ 0); omega
            refine lv_iload hx hb dX6_betterWay_84 (lv_at hl 1 rfl) ?_
            refine lv_istore (lv' := [(5, .int x_89530), (7, .long w_89543), (6, .int x_89530), (4, .int (-1)), (0, .ref sv), (1, .int p0), (2, .int p1), (3, .ref vs)]) hx hb dX6_betterWay_86 hl (by decide) rfl (fun ls hl => ?_)
            obtain ⟨v_89550, v_89550_e⟩ : ∃ y : Int32, y = x_89530 + Int32.ofInt 1 := ⟨_, rfl⟩
            have h_v_89550 : 1 ≤ (v_89550 : Int32).toInt ∧ (v_89550 : Int32).toInt ≤ 3 := by rw [v_89550_e]; exact tr_add h_89535 (⟨by decide, by decide⟩ : 1 ≤ (Int32.ofInt 1 : Int32).toInt ∧ (Int32.ofInt 1 : Int32).toInt ≤ 1) (by decide) (by decide) (by decide) (by decide)
            have q_v_89550 : v_89550.toInt = x_89530.toInt + 1 := by rw [v_89550_e]; exact tr_addE h_89535 (⟨by decide, by decide⟩ : 1 ≤ (Int32.ofInt 1 : Int32).toInt ∧ (Int32.ofInt 1 : Int32).toInt ≤ 1) (by decide) (by decide)
            refine lv_iinc (v := v_89550) (lv' := [(6, .int v_89550), (5, .int x_89530), (7, .long w_89543), (4, .int (-1)), (0, .ref sv), (1, .int p0), (2, .int p1), (3, .ref vs)]) hx hb dX6_betterWay_88 hl (k := 2) rfl v_89550_e.symm (by decide) rfl (fun ls hl => ?_)
            refine lv_goto (tgt := 26) hx hb dX6_betterWay_91 (by decide) ?_
            exact ih_89532 v_89550 x_89530 ls (tr_w h_v_89550 (by decide) (by decide)) (tr_w h_89535 (by decide) (by decide)) (by omega) (lv_sub hl [0, 1, 3, 4, 5, 6, 7] rfl)
    exact lp_89532 4 0 p1 ls (⟨by decide, by decide⟩ : 0 ≤ (0 : Int32).toInt ∧ (0 : Int32).toInt ≤ 3) (tr_w h_p1 (by decide) (by decide)) (by decide) (lv_sub hl [0, 1, 2, 3, 4, 5, 6] rfl)
  · skip
    have c_89452_i := c_89452
    have c_89452_i : (v_89451 : Int32).toInt = (1 : Int32).toInt := congrArg Int32.toInt c_89452
    have h_89453 : 1 ≤ (v_89451 : Int32).toInt ∧ (v_89451 : Int32).toInt ≤ 1 := by have q1 := h_v_89451; have q2 := (⟨by decide, by decide⟩ : 1 ≤ (1 : Int32).toInt ∧ (1 : Int32).toInt ≤ 1); omega
    refine lv_iconst (v := 1) hx hb dX6_betterWay_13 (by decide) ?_
    refine lv_goto (tgt := 18) hx hb dX6_betterWay_14 (by decide) ?_
    refine lv_istore (lv' := [(4, .int 1), (0, .ref sv), (1, .int p0), (2, .int p1), (3, .ref vs)]) hx hb dX6_betterWay_18 hl (by decide) rfl (fun ls hl => ?_)
    refine lv_iload_n hx hb dX6_betterWay_20 rfl (lv_at hl 3 rfl) ?_
    refine lv_istore (lv' := [(5, .int p1), (4, .int 1), (0, .ref sv), (1, .int p0), (2, .int p1), (3, .ref vs)]) hx hb dX6_betterWay_21 hl (by decide) rfl (fun ls hl => ?_)
    refine lv_iconst (v := 0) hx hb dX6_betterWay_23 (by decide) ?_
    refine lv_istore (lv' := [(6, .int 0), (5, .int p1), (4, .int 1), (0, .ref sv), (1, .int p0), (2, .int p1), (3, .ref vs)]) hx hb dX6_betterWay_24 hl (by decide) rfl (fun ls hl => ?_)
    have lp_89629 : ∀ (n_89629 : Nat) (x_89627 : Int32) (x_89628 : Int32) (ls : Array Slot), (0 ≤ (x_89627 : Int32).toInt ∧ (x_89627 : Int32).toInt ≤ 3) → (0 ≤ (x_89628 : Int32).toInt ∧ (x_89628 : Int32).toInt ≤ 2) → (3 - x_89627.toInt < (n_89629 : Int)) → lv_has ls 9 [(6, .int x_89627), (5, .int x_89628), (4, .int 1), (0, .ref sv), (1, .int p0), (2, .int p1), (3, .ref vs)] → W p l e (headSpec (.code yX6_betterWay cX6_betterWay 9 (some .int) :: wsL_law) ({ frames := 1, cells := 0, slots := 0, locals := 22 })).room s m args below meth c s.heap [] 0 0 (MQ below (vp_Si (fun r => 0 ≤ (r : Int32).toInt ∧ (r : Int32).toInt ≤ 2)) args s 0 0 (fun _ => False)) (F0 m 26 ls []) := by
      intro n_89629
      induction n_89629 with
      | zero =>
        intro x_89627 x_89628 ls h_x_89627 h_x_89628 hm_89629 hl
        exfalso; omega
      | succ n_89629 ih_89629 =>
        intro x_89627 x_89628 ls h_x_89627 h_x_89628 hm_89629 hl
        refine lv_iload hx hb dX6_betterWay_26 (lv_at hl 0 rfl) ?_
        refine lv_aload_n hx hb dX6_betterWay_28 rfl (lv_at hl 3 rfl) ?_
        refine va_get (D := D) (ci := 6) (v := .ref n) (C := RX6) (T := TX6) (N := 4) hx hb hts inlX6 hown hK hP 0 rfl rfl 0 (by decide) (hts (Cond.fieldLink RX6 19 "ChanceRings$Solver" "net" "LChanceRings$Net;") qw_548) (fun _ h9 => h9) rfl dX6_betterWay_29 ?_
        refine va_get (D := D) (ci := 2) (v := .ref n_ways) (C := RX2) (T := TX2) (N := 8) hx hb hts inlX2 hown hK hP 1 rfl rfl 4 (by decide) (hts (Cond.fieldLink RX6 68 "ChanceRings$Net" "ways" "[I") qw_552) (fun _ h9 => h9) rfl dX6_betterWay_32 ?_
        refine lv_iload_n hx hb dX6_betterWay_35 rfl (lv_at hl 4 rfl) ?_
        refine va_iald hx hb hK hP 3 0 rfl rfl (tr_in h_p0 (by decide) (by decide)) dX6_betterWay_36 ?_
        refine lv_topi (fun v_89630 v_89630_e => ?_)
        have h_v_89630 : 0 ≤ (v_89630 : Int32).toInt ∧ (v_89630 : Int32).toInt ≤ 3 := by rw [v_89630_e]; exact h_n_fways _
        refine lv_icmp_ge (tgt := 94) hx hb dX6_betterWay_37 (by decide) (fun c_89631 => ?_) (fun c_89631 => ?_)
        · skip
          refine lv_iload hx hb dX6_betterWay_94 (lv_at hl 1 rfl) ?_
          exact W.iret (v := x_89628) hx hb hr (fun t ht hW => ⟨x_89628, rfl, (tr_w h_x_89628 (by decide) (by decide)), ht⟩) (fun _ h => nomatch h) dX6_betterWay_96
        · skip
          have c_89631_i := Int32.lt_iff_toInt_lt.mp (Int32.not_le.mp c_89631)
          have h_89632 : 0 ≤ (x_89627 : Int32).toInt ∧ (x_89627 : Int32).toInt ≤ 2 := by have q1 := h_x_89627; have q2 := h_v_89630; omega
          have h_89633 : 1 ≤ (v_89630 : Int32).toInt ∧ (v_89630 : Int32).toInt ≤ 3 := by have q1 := h_x_89627; have q2 := h_v_89630; omega
          refine lv_aload_n hx hb dX6_betterWay_40 rfl (lv_at hl 6 rfl) ?_
          refine va_get (D := D) (ci := 10) (v := .ref vs_part) (C := RX10) (T := TX10) (N := 2) hx hb hts inlX10 hown hK hP 5 rfl rfl 0 (by decide) (hts (Cond.fieldLink RX6 71 "ChanceRings$Values" "part" "[J") qw_553) (fun _ h9 => h9) rfl dX6_betterWay_41 ?_
          refine lv_aload_n hx hb dX6_betterWay_44 rfl (lv_at hl 3 rfl) ?_
          refine va_get (D := D) (ci := 6) (v := .ref n) (C := RX6) (T := TX6) (N := 4) hx hb hts inlX6 hown hK hP 0 rfl rfl 0 (by decide) (hts (Cond.fieldLink RX6 19 "ChanceRings$Solver" "net" "LChanceRings$Net;") qw_548) (fun _ h9 => h9) rfl dX6_betterWay_45 ?_
          refine lv_iload_n hx hb dX6_betterWay_48 rfl (lv_at hl 4 rfl) ?_
          refine lv_iload hx hb dX6_betterWay_49 (lv_at hl 0 rfl) ?_
          have hPc := hP.sub (ws' := [(n, .inr (2, [.int n_nodes, .ref n_kind, .ref n_pay, .ref n_name, .ref n_ways, .ref n_held, .ref n_targets, .ref n_weights])), (n_targets, .inl (g 0, 36, .inl n_ftargets))]) [1, 4] rfl
          refine vp_callSi (va_Run.run (va_runV (As := [.int p0, .int x_89627]) (rest := [.ref vs_part]) ⟨hx, hb, hml, hown, hts⟩ (c_X2_target l D g n p0 x_89627 n_nodes n_kind n_pay n_name n_ways n_held n_targets n_weights n_ftargets (tr_w h_p0 (by decide) (by decide)) (tr_w h_89632 (by decide) (by decide)) (tr_w h_n_nodes (by decide) (by decide)) (tr_wa h_n_ftargets (by decide) (by decide))) (cwV 2 hts (tz_gV qw_554 qw_325 qw_326 qw_322 qw_327) rfl rfl rfl (by decide +kernel) ⟨Nat.le_of_ble_eq_true rfl, Nat.le_of_ble_eq_true rfl⟩) ⟨tz_blS, va_recv hK hPc (ci := 2) (q0 := 0) rfl rfl, tz_preS hPc hK⟩ rfl rfl hl.1 rfl (lv_room (Nat.le_of_ble_eq_true rfl)) dX6_betterWay_51 ⟨Nat.le_of_ble_eq_true rfl, Nat.le_of_ble_eq_true rfl⟩)) (fun r_89634 hw => ?_)
          have hw_89635 : 0 ≤ (r_89634 : Int32).toInt ∧ (r_89634 : Int32).toInt ≤ 11 := hw
          refine va_lald hx hb hK hP 6 1 rfl rfl (tr_in hw_89635 (by decide) (by decide)) dX6_betterWay_54 ?_
          refine lv_topl (fun w_89636 _ => ?_)
          refine lv_aload_n hx hb dX6_betterWay_55 rfl (lv_at hl 6 rfl) ?_
          refine va_get (D := D) (ci := 10) (v := .ref vs_part) (C := RX10) (T := TX10) (N := 2) hx hb hts inlX10 hown hK hP 5 rfl rfl 0 (by decide) (hts (Cond.fieldLink RX6 71 "ChanceRings$Values" "part" "[J") qw_553) (fun _ h9 => h9) rfl dX6_betterWay_56 ?_
          refine lv_aload_n hx hb dX6_betterWay_59 rfl (lv_at hl 3 rfl) ?_
          refine va_get (D := D) (ci := 6) (v := .ref n) (C := RX6) (T := TX6) (N := 4) hx hb hts inlX6 hown hK hP 0 rfl rfl 0 (by decide) (hts (Cond.fieldLink RX6 19 "ChanceRings$Solver" "net" "LChanceRings$Net;") qw_548) (fun _ h9 => h9) rfl dX6_betterWay_60 ?_
          refine lv_iload_n hx hb dX6_betterWay_63 rfl (lv_at hl 4 rfl) ?_
          refine lv_iload hx hb dX6_betterWay_64 (lv_at hl 1 rfl) ?_
          have hPc := hP.sub (ws' := [(n, .inr (2, [.int n_nodes, .ref n_kind, .ref n_pay, .ref n_name, .ref n_ways, .ref n_held, .ref n_targets, .ref n_weights])), (n_targets, .inl (g 0, 36, .inl n_ftargets))]) [1, 4] rfl
          refine vp_callSi (va_Run.run (va_runV (As := [.int p0, .int x_89628]) (rest := [.ref vs_part, .long w_89636]) ⟨hx, hb, hml, hown, hts⟩ (c_X2_target l D g n p0 x_89628 n_nodes n_kind n_pay n_name n_ways n_held n_targets n_weights n_ftargets (tr_w h_p0 (by decide) (by decide)) (tr_w h_x_89628 (by decide) (by decide)) (tr_w h_n_nodes (by decide) (by decide)) (tr_wa h_n_ftargets (by decide) (by decide))) (cwV 2 hts (tz_gV qw_554 qw_325 qw_326 qw_322 qw_327) rfl rfl rfl (by decide +kernel) ⟨Nat.le_of_ble_eq_true rfl, Nat.le_of_ble_eq_true rfl⟩) ⟨tz_blS, va_recv hK hPc (ci := 2) (q0 := 0) rfl rfl, tz_preS hPc hK⟩ rfl rfl hl.1 rfl (lv_room (Nat.le_of_ble_eq_true rfl)) dX6_betterWay_66 ⟨Nat.le_of_ble_eq_true rfl, Nat.le_of_ble_eq_true rfl⟩)) (fun r_89637 hw => ?_)
          have hw_89638 : 0 ≤ (r_89637 : Int32).toInt ∧ (r_89637 : Int32).toInt ≤ 11 := hw
          refine va_lald hx hb hK hP 6 1 rfl rfl (tr_in hw_89638 (by decide) (by decide)) dX6_betterWay_69 ?_
          refine lv_topl (fun w_89639 _ => ?_)
          refine lv_lsub hx hb dX6_betterWay_70 ?_
          refine lv_topl (fun w_89640 _ => ?_)
          refine lv_lstore (lv' := [(7, .long w_89640), (6, .int x_89627), (5, .int x_89628), (4, .int 1), (0, .ref sv), (1, .int p0), (2, .int p1), (3, .ref vs)]) hx hb dX6_betterWay_71 hl (by decide) rfl (fun ls hl => ?_)
          refine lv_iload hx hb dX6_betterWay_73 (lv_at hl 3 rfl) ?_
          refine lv_i2l (v := 1) hx hb dX6_betterWay_75 (by decide +kernel) ?_
          refine lv_lload hx hb dX6_betterWay_76 (lv_at hl 0 rfl) ?_
          refine lv_lmul hx hb dX6_betterWay_78 ?_
          refine lv_topl (fun w_89641 _ => ?_)
          refine lv_lconst (v := 0) hx hb dX6_betterWay_79 (by decide) ?_
          refine W.lcmp hx hb dX6_betterWay_80 ?_
          refine lv_topi (fun v_89642 v_89642_e => ?_)
          have h_v_89642 : (-1) ≤ (v_89642 : Int32).toInt ∧ (v_89642 : Int32).toInt ≤ 1 := by rw [v_89642_e]; exact tr_cmp _ _
          refine lv_if_le (tgt := 88) hx hb dX6_betterWay_81 (by decide) (fun c_89643 => ?_) (fun c_89643 => ?_)
          · skip
            have c_89643_i := Int32.le_iff_toInt_le.mp c_89643
            have h_89644 : (-1) ≤ (v_89642 : Int32).toInt ∧ (v_89642 : Int32).toInt ≤ 0 := by have q1 := h_v_89642; have q2 := (⟨by decide, by decide⟩ : 0 ≤ (0 : Int32).toInt ∧ (0 : Int32).toInt ≤ 0); omega
            obtain ⟨v_89646, v_89646_e⟩ : ∃ y : Int32, y = x_89627 + Int32.ofInt 1 := ⟨_, rfl⟩
            have h_v_89646 : 1 ≤ (v_89646 : Int32).toInt ∧ (v_89646 : Int32).toInt ≤ 3 := by rw [v_89646_e]; exact tr_add h_89632 (⟨by decide, by decide⟩ : 1 ≤ (Int32.ofInt 1 : Int32).toInt ∧ (Int32.ofInt 1 : Int32).toInt ≤ 1) (by decide) (by decide) (by decide) (by decide)
            have q_v_89646 : v_89646.toInt = x_89627.toInt + 1 := by rw [v_89646_e]; exact tr_addE h_89632 (⟨by decide, by decide⟩ : 1 ≤ (Int32.ofInt 1 : Int32).toInt ∧ (Int32.ofInt 1 : Int32).toInt ≤ 1) (by decide) (by decide)
            refine lv_iinc (v := v_89646) (lv' := [(6, .int v_89646), (7, .long w_89640), (5, .int x_89628), (4, .int 1), (0, .ref sv), (1, .int p0), (2, .int p1), (3, .ref vs)]) hx hb dX6_betterWay_88 hl (k := 1) rfl v_89646_e.symm (by decide) rfl (fun ls hl => ?_)
            refine lv_goto (tgt := 26) hx hb dX6_betterWay_91 (by decide) ?_
            exact ih_89629 v_89646 x_89628 ls (tr_w h_v_89646 (by decide) (by decide)) (tr_w h_x_89628 (by decide) (by decide)) (by omega) (lv_sub hl [0, 2, 3, 4, 5, 6, 7] rfl)
          · skip
            have c_89643_i := Int32.lt_iff_toInt_lt.mp (Int32.not_le.mp c_89643)
            have h_89645 : 1 ≤ (v_89642 : Int32).toInt ∧ (v_89642 : Int32).toInt ≤ 1 := by have q1 := h_v_89642; have q2 := (⟨by decide, by decide⟩ : 0 ≤ (0 : Int32).toInt ∧ (0 : Int32).toInt ≤ 0); omega
            refine lv_iload hx hb dX6_betterWay_84 (lv_at hl 1 rfl) ?_
            refine lv_istore (lv' := [(5, .int x_89627), (7, .long w_89640), (6, .int x_89627), (4, .int 1), (0, .ref sv), (1, .int p0), (2, .int p1), (3, .ref vs)]) hx hb dX6_betterWay_86 hl (by decide) rfl (fun ls hl => ?_)
            obtain ⟨v_89647, v_89647_e⟩ : ∃ y : Int32, y = x_89627 + Int32.ofInt 1 := ⟨_, rfl⟩
            have h_v_89647 : 1 ≤ (v_89647 : Int32).toInt ∧ (v_89647 : Int32).toInt ≤ 3 := by rw [v_89647_e]; exact tr_add h_89632 (⟨by decide, by decide⟩ : 1 ≤ (Int32.ofInt 1 : Int32).toInt ∧ (Int32.ofInt 1 : Int32).toInt ≤ 1) (by decide) (by decide) (by decide) (by decide)
            have q_v_89647 : v_89647.toInt = x_89627.toInt + 1 := by rw [v_89647_e]; exact tr_addE h_89632 (⟨by decide, by decide⟩ : 1 ≤ (Int32.ofInt 1 : Int32).toInt ∧ (Int32.ofInt 1 : Int32).toInt ≤ 1) (by decide) (by decide)
            refine lv_iinc (v := v_89647) (lv' := [(6, .int v_89647), (5, .int x_89627), (7, .long w_89640), (4, .int 1), (0, .ref sv), (1, .int p0), (2, .int p1), (3, .ref vs)]) hx hb dX6_betterWay_88 hl (k := 2) rfl v_89647_e.symm (by decide) rfl (fun ls hl => ?_)
            refine lv_goto (tgt := 26) hx hb dX6_betterWay_91 (by decide) ?_
            exact ih_89629 v_89647 x_89627 ls (tr_w h_v_89647 (by decide) (by decide)) (tr_w h_89632 (by decide) (by decide)) (by omega) (lv_sub hl [0, 1, 3, 4, 5, 6, 7] rfl)
    exact lp_89629 4 0 p1 ls (⟨by decide, by decide⟩ : 0 ≤ (0 : Int32).toInt ∧ (0 : Int32).toInt ≤ 3) (tr_w h_p1 (by decide) (by decide)) (by decide) (lv_sub hl [0, 1, 2, 3, 4, 5, 6] rfl)
set_option maxHeartbeats 4000000 in
set_option maxRecDepth 100000 in
theorem c_X6_turnOpen (l : Launch) (D : va_G) (g : Nat → ClassId) (sz : Nat) (sv : Nat) (p0 : Int32) (pl : Nat) (vs : Nat) (p3 : Int32) (n : Nat) (co : Nat) (sv_keep : Nat) (sv_scaled : Nat) (n_nodes : Int32) (n_kind : Nat) (n_pay : Nat) (n_name : Nat) (n_ways : Nat) (n_held : Nat) (n_targets : Nat) (n_weights : Nat) (n_fkind : Nat → Int32) (n_fways : Nat → Int32) (n_fheld : Nat → Int32) (n_ftargets : Nat → Int32) (vs_part : Nat) (vsw : Int64) (vsp : Nat → Int64) (plf : Nat → Int32) (h_n_nodes : 0 ≤ (n_nodes : Int32).toInt ∧ (n_nodes : Int32).toInt ≤ 12) (h_n_fkind : ∀ j : Nat, 0 ≤ (n_fkind j).toInt ∧ (n_fkind j).toInt ≤ 3) (h_n_fways : ∀ j : Nat, 0 ≤ (n_fways j).toInt ∧ (n_fways j).toInt ≤ 3) (h_n_fheld : ∀ j : Nat, (-1) ≤ (n_fheld j).toInt ∧ (n_fheld j).toInt ≤ 2) (h_n_ftargets : ∀ j : Nat, 0 ≤ (n_ftargets j).toInt ∧ (n_ftargets j).toInt ≤ 11) (h_plf : ∀ j : Nat, 0 ≤ (plf j).toInt ∧ (plf j).toInt ≤ 2) : Met l yX6_turnOpen (.code yX6_turnOpen cX6_turnOpen 8 (some .int) :: wsL_law) ({ frames := 2, cells := 0, slots := 0, locals := 50 }) (va_Pc [.ref sv, .int p0, .ref pl, .ref vs, .int p3] (fun U => U.heap.size = sz ∧ va_P D vwCl [(sv, .inr (6, [.ref n, .ref co, .ref sv_keep, .ref sv_scaled])), (n, .inr (2, [.int n_nodes, .ref n_kind, .ref n_pay, .ref n_name, .ref n_ways, .ref n_held, .ref n_targets, .ref n_weights])), (n_kind, .inl (g 0, 12, .inl n_fkind)), (n_ways, .inl (g 0, 12, .inl n_fways)), (n_held, .inl (g 0, 12, .inl n_fheld)), (n_targets, .inl (g 0, 36, .inl n_ftargets)), (vs, .inr (10, [.ref vs_part, .long vsw])), (vs_part, .inl (g 1, 12, .inr (.inl vsp))), (pl, .inl (g 0, 12, .inl plf))] U.heap ∧ va_K D vwCl (TY g) U ∧ va_D (fun _ => True) [(sv, .inr (6, [.ref n, .ref co, .ref sv_keep, .ref sv_scaled])), (n, .inr (2, [.int n_nodes, .ref n_kind, .ref n_pay, .ref n_name, .ref n_ways, .ref n_held, .ref n_targets, .ref n_weights])), (n_kind, .inl (g 0, 12, .inl n_fkind)), (n_ways, .inl (g 0, 12, .inl n_fways)), (n_held, .inl (g 0, 12, .inl n_fheld)), (n_targets, .inl (g 0, 36, .inl n_ftargets)), (vs, .inr (10, [.ref vs_part, .long vsw])), (vs_part, .inl (g 1, 12, .inr (.inl vsp))), (pl, .inl (g 0, 12, .inl plf))])) (va_Qi (fun r (_ : Unit) => True) (fun _ t => ∃ opl : Nat → Int32, (∀ j : Nat, 0 ≤ (opl j).toInt ∧ (opl j).toInt ≤ 2) ∧ va_P D vwCl [(sv, .inr (6, [.ref n, .ref co, .ref sv_keep, .ref sv_scaled])), (n, .inr (2, [.int n_nodes, .ref n_kind, .ref n_pay, .ref n_name, .ref n_ways, .ref n_held, .ref n_targets, .ref n_weights])), (n_kind, .inl (g 0, 12, .inl n_fkind)), (n_ways, .inl (g 0, 12, .inl n_fways)), (n_held, .inl (g 0, 12, .inl n_fheld)), (n_targets, .inl (g 0, 36, .inl n_ftargets)), (vs, .inr (10, [.ref vs_part, .long vsw])), (vs_part, .inl (g 1, 12, .inr (.inl vsp))), (pl, .inl (g 0, 12, .inl opl))] t.heap ∧ va_D (va_A [(sv, .inr (6, [.ref n, .ref co, .ref sv_keep, .ref sv_scaled])), (n, .inr (2, [.int n_nodes, .ref n_kind, .ref n_pay, .ref n_name, .ref n_ways, .ref n_held, .ref n_targets, .ref n_weights])), (n_kind, .inl (g 0, 12, .inl n_fkind)), (n_ways, .inl (g 0, 12, .inl n_fways)), (n_held, .inl (g 0, 12, .inl n_fheld)), (n_targets, .inl (g 0, 36, .inl n_ftargets)), (vs, .inr (10, [.ref vs_part, .long vsw])), (vs_part, .inl (g 1, 12, .inr (.inl vsp))), (pl, .inl (g 0, 12, .inl plf))] sz) [(sv, .inr (6, [.ref n, .ref co, .ref sv_keep, .ref sv_scaled])), (n, .inr (2, [.int n_nodes, .ref n_kind, .ref n_pay, .ref n_name, .ref n_ways, .ref n_held, .ref n_targets, .ref n_weights])), (n_kind, .inl (g 0, 12, .inl n_fkind)), (n_ways, .inl (g 0, 12, .inl n_fways)), (n_held, .inl (g 0, 12, .inl n_fheld)), (n_targets, .inl (g 0, 36, .inl n_ftargets)), (vs, .inr (10, [.ref vs_part, .long vsw])), (vs_part, .inl (g 1, 12, .inr (.inl vsp))), (pl, .inl (g 0, 12, .inl opl))]) (va_A [(sv, .inr (6, [.ref n, .ref co, .ref sv_keep, .ref sv_scaled])), (n, .inr (2, [.int n_nodes, .ref n_kind, .ref n_pay, .ref n_name, .ref n_ways, .ref n_held, .ref n_targets, .ref n_weights])), (n_kind, .inl (g 0, 12, .inl n_fkind)), (n_ways, .inl (g 0, 12, .inl n_fways)), (n_held, .inl (g 0, 12, .inl n_fheld)), (n_targets, .inl (g 0, 36, .inl n_ftargets)), (vs, .inr (10, [.ref vs_part, .long vsw])), (vs_part, .inl (g 1, 12, .inr (.inl vsp))), (pl, .inl (g 0, 12, .inl plf))] sz)) 0 0 (va_A [(sv, .inr (6, [.ref n, .ref co, .ref sv_keep, .ref sv_scaled])), (n, .inr (2, [.int n_nodes, .ref n_kind, .ref n_pay, .ref n_name, .ref n_ways, .ref n_held, .ref n_targets, .ref n_weights])), (n_kind, .inl (g 0, 12, .inl n_fkind)), (n_ways, .inl (g 0, 12, .inl n_fways)), (n_held, .inl (g 0, 12, .inl n_fheld)), (n_targets, .inl (g 0, 36, .inl n_ftargets)), (vs, .inr (10, [.ref vs_part, .long vsw])), (vs_part, .inl (g 1, 12, .inr (.inl vsp))), (pl, .inl (g 0, 12, .inl plf))] sz) := by
  refine Met.ofW (cc := cX6_turnOpen) (maxL := 8) (ret := (some .int)) (by decide) rfl ?_
  intro p e s m args below meth c s₁ B hml hv
  obtain ⟨ha, hsz, hP, hK, hD0⟩ := hv
  have hx := B.exec
  have hb := B.bytes
  have hr := B.returns
  have hts0 := atoms_spec (ws := (.code yX6_turnOpen cX6_turnOpen 8 (some .int) :: wsL_law)) B.pre
  have hts : ∀ w ∈ wsL_law, w.before args s = true := fun w h => hts0 w (List.mem_cons_of_mem _ h)
  have hown : s.vm.findClass RX6 = some m.cls := findClass_of_methodNamed B.named
  have hlocks := B.notSynchronized
  subst hsz
  have hD := hD0.self (sz := s.heap.size)
  generalize hAe : va_A [(sv, .inr (6, [.ref n, .ref co, .ref sv_keep, .ref sv_scaled])), (n, .inr (2, [.int n_nodes, .ref n_kind, .ref n_pay, .ref n_name, .ref n_ways, .ref n_held, .ref n_targets, .ref n_weights])), (n_kind, .inl (g 0, 12, .inl n_fkind)), (n_ways, .inl (g 0, 12, .inl n_fways)), (n_held, .inl (g 0, 12, .inl n_fheld)), (n_targets, .inl (g 0, 36, .inl n_ftargets)), (vs, .inr (10, [.ref vs_part, .long vsw])), (vs_part, .inl (g 1, 12, .inr (.inl vsp))), (pl, .inl (g 0, 12, .inl plf))] s.heap.size = A at hD ⊢
  have hA : ∀ q : Nat, s.heap.size ≤ q → A q := fun q h => by rw [← hAe]; exact Or.inr h
  have hS : va_S A s.heap s.heap [] := va_S.rf
  have hP : va_P D vwCl [(sv, .inr (6, [.ref n, .ref co, .ref sv_keep, .ref sv_scaled])), (n, .inr (2, [.int n_nodes, .ref n_kind, .ref n_pay, .ref n_name, .ref n_ways, .ref n_held, .ref n_targets, .ref n_weights])), (n_kind, .inl (g 0, 12, .inl n_fkind)), (n_ways, .inl (g 0, 12, .inl n_fways)), (n_held, .inl (g 0, 12, .inl n_fheld)), (n_targets, .inl (g 0, 36, .inl n_ftargets)), (vs, .inr (10, [.ref vs_part, .long vsw])), (vs_part, .inl (g 1, 12, .inr (.inl vsp))), (pl, .inl (g 0, 12, .inl plf))] s.heap := hP
  refine W.eq (g2 := entryFrame m ([.ref sv, .int p0, .ref pl, .ref vs, .int p3] : List Value).toArray 8) (by rw [ha]) ?_
  have hl := lv_entry ([.ref sv, .int p0, .ref pl, .ref vs, .int p3]) (n := 8) (Nat.le_of_ble_eq_true rfl)
  rw [lg_entry_eq]
  generalize (lg_sl ([.ref sv, .int p0, .ref pl, .ref vs, .int p3]) ++ List.replicate (8 - (lg_sl ([.ref sv, .int p0, .ref pl, .ref vs, .int p3])).length) Slot.unset).toArray = ls at hl ⊢
  have hl : lv_has ls 8 [(0, .ref sv), (1, .int p0), (2, .ref pl), (3, .ref vs), (4, .int p3)] := hl
  refine lv_iconst (v := 0) hx hb dX6_turnOpen_0 (by decide) ?_
  refine lv_istore (lv' := [(5, .int 0), (0, .ref sv), (1, .int p0), (2, .ref pl), (3, .ref vs), (4, .int p3)]) hx hb dX6_turnOpen_1 hl (by decide) rfl (fun ls hl => ?_)
  refine lv_iconst (v := 0) hx hb dX6_turnOpen_3 (by decide) ?_
  refine lv_istore (lv' := [(6, .int 0), (5, .int 0), (0, .ref sv), (1, .int p0), (2, .ref pl), (3, .ref vs), (4, .int p3)]) hx hb dX6_turnOpen_4 hl (by decide) rfl (fun ls hl => ?_)
  have lp_90263 : ∀ (n_90263 : Nat) (x_90260 : Int32) (x_90261 : Int32) (f_90262 : Nat → Int32) (H : Heap) (locs : List Loc) (ls : Array Slot), (0 ≤ (x_90260 : Int32).toInt ∧ (x_90260 : Int32).toInt ≤ 12) → (∀ j : Nat, 0 ≤ (f_90262 j).toInt ∧ (f_90262 j).toInt ≤ 2) → (12 - x_90260.toInt < (n_90263 : Int)) → va_P D vwCl [(sv, .inr (6, [.ref n, .ref co, .ref sv_keep, .ref sv_scaled])), (n, .inr (2, [.int n_nodes, .ref n_kind, .ref n_pay, .ref n_name, .ref n_ways, .ref n_held, .ref n_targets, .ref n_weights])), (n_kind, .inl (g 0, 12, .inl n_fkind)), (n_ways, .inl (g 0, 12, .inl n_fways)), (n_held, .inl (g 0, 12, .inl n_fheld)), (n_targets, .inl (g 0, 36, .inl n_ftargets)), (vs, .inr (10, [.ref vs_part, .long vsw])), (vs_part, .inl (g 1, 12, .inr (.inl vsp))), (pl, .inl (g 0, 12, .inl f_90262))] H → va_D A [(sv, .inr (6, [.ref n, .ref co, .ref sv_keep, .ref sv_scaled])), (n, .inr (2, [.int n_nodes, .ref n_kind, .ref n_pay, .ref n_name, .ref n_ways, .ref n_held, .ref n_targets, .ref n_weights])), (n_kind, .inl (g 0, 12, .inl n_fkind)), (n_ways, .inl (g 0, 12, .inl n_fways)), (n_held, .inl (g 0, 12, .inl n_fheld)), (n_targets, .inl (g 0, 36, .inl n_ftargets)), (vs, .inr (10, [.ref vs_part, .long vsw])), (vs_part, .inl (g 1, 12, .inr (.inl vsp))), (pl, .inl (g 0, 12, .inl f_90262))] → va_S A s.heap H locs → lv_has ls 8 [(6, .int x_90260), (5, .int x_90261), (0, .ref sv), (1, .int p0), (2, .ref pl), (3, .ref vs), (4, .int p3)] → W p l e (headSpec (.code yX6_turnOpen cX6_turnOpen 8 (some .int) :: wsL_law) ({ frames := 2, cells := 0, slots := 0, locals := 50 })).room s m args below meth c H locs 0 0 (MQ below (va_Qi (fun r (_ : Unit) => True) (fun _ t => ∃ opl : Nat → Int32, (∀ j : Nat, 0 ≤ (opl j).toInt ∧ (opl j).toInt ≤ 2) ∧ va_P D vwCl [(sv, .inr (6, [.ref n, .ref co, .ref sv_keep, .ref sv_scaled])), (n, .inr (2, [.int n_nodes, .ref n_kind, .ref n_pay, .ref n_name, .ref n_ways, .ref n_held, .ref n_targets, .ref n_weights])), (n_kind, .inl (g 0, 12, .inl n_fkind)), (n_ways, .inl (g 0, 12, .inl n_fways)), (n_held, .inl (g 0, 12, .inl n_fheld)), (n_targets, .inl (g 0, 36, .inl n_ftargets)), (vs, .inr (10, [.ref vs_part, .long vsw])), (vs_part, .inl (g 1, 12, .inr (.inl vsp))), (pl, .inl (g 0, 12, .inl opl))] t.heap ∧ va_D A [(sv, .inr (6, [.ref n, .ref co, .ref sv_keep, .ref sv_scaled])), (n, .inr (2, [.int n_nodes, .ref n_kind, .ref n_pay, .ref n_name, .ref n_ways, .ref n_held, .ref n_targets, .ref n_weights])), (n_kind, .inl (g 0, 12, .inl n_fkind)), (n_ways, .inl (g 0, 12, .inl n_fways)), (n_held, .inl (g 0, 12, .inl n_fheld)), (n_targets, .inl (g 0, 36, .inl n_ftargets)), (vs, .inr (10, [.ref vs_part, .long vsw])), (vs_part, .inl (g 1, 12, .inr (.inl vsp))), (pl, .inl (g 0, 12, .inl opl))]) A) args s 0 0 A) (F0 m 6 ls []) := by
    intro n_90263
    induction n_90263 with
    | zero =>
      intro x_90260 x_90261 f_90262 H locs ls h_x_90260 h_f_90262 hm_90263 hP hD hS hl
      exfalso; omega
    | succ n_90263 ih_90263 =>
      intro x_90260 x_90261 f_90262 H locs ls h_x_90260 h_f_90262 hm_90263 hP hD hS hl
      refine lv_iload hx hb dX6_turnOpen_6 (lv_at hl 0 rfl) ?_
      refine lv_aload_n hx hb dX6_turnOpen_8 rfl (lv_at hl 2 rfl) ?_
      refine va_get (D := D) (ci := 6) (v := .ref n) (C := RX6) (T := TX6) (N := 4) hx hb hts inlX6 hown hK hP 0 rfl rfl 0 (by decide) (hts (Cond.fieldLink RX6 19 "ChanceRings$Solver" "net" "LChanceRings$Net;") qw_548) (fun _ h9 => h9) rfl dX6_turnOpen_9 ?_
      refine va_get (D := D) (ci := 2) (v := .int n_nodes) (C := RX2) (T := TX2) (N := 8) hx hb hts inlX2 hown hK hP 1 rfl rfl 0 (by decide) (hts (Cond.fieldLink RX6 32 "ChanceRings$Net" "nodes" "I") qw_549) (fun _ h9 => h9) rfl dX6_turnOpen_12 ?_
      refine lv_icmp_ge (tgt := 93) hx hb dX6_turnOpen_15 (by decide) (fun c_90264 => ?_) (fun c_90264 => ?_)
      · skip
        refine lv_iload hx hb dX6_turnOpen_93 (lv_at hl 1 rfl) ?_
        have hP9 := hP.sub (ws' := [(sv, .inr (6, [.ref n, .ref co, .ref sv_keep, .ref sv_scaled])), (n, .inr (2, [.int n_nodes, .ref n_kind, .ref n_pay, .ref n_name, .ref n_ways, .ref n_held, .ref n_targets, .ref n_weights])), (n_kind, .inl (g 0, 12, .inl n_fkind)), (n_ways, .inl (g 0, 12, .inl n_fways)), (n_held, .inl (g 0, 12, .inl n_fheld)), (n_targets, .inl (g 0, 36, .inl n_ftargets)), (vs, .inr (10, [.ref vs_part, .long vsw])), (vs_part, .inl (g 1, 12, .inr (.inl vsp))), (pl, .inl (g 0, 12, .inl f_90262))]) [0, 1, 2, 3, 4, 5, 6, 7, 8] rfl
        have hD9 := hD.sub (ws' := [(sv, .inr (6, [.ref n, .ref co, .ref sv_keep, .ref sv_scaled])), (n, .inr (2, [.int n_nodes, .ref n_kind, .ref n_pay, .ref n_name, .ref n_ways, .ref n_held, .ref n_targets, .ref n_weights])), (n_kind, .inl (g 0, 12, .inl n_fkind)), (n_ways, .inl (g 0, 12, .inl n_fways)), (n_held, .inl (g 0, 12, .inl n_fheld)), (n_targets, .inl (g 0, 36, .inl n_ftargets)), (vs, .inr (10, [.ref vs_part, .long vsw])), (vs_part, .inl (g 1, 12, .inr (.inl vsp))), (pl, .inl (g 0, 12, .inl f_90262))]) [0, 1, 2, 3, 4, 5, 6, 7, 8] (by decide) rfl
        exact W.iret (v := x_90261) hx hb hr (fun t ht hW => ⟨⟨x_90261, (), rfl, trivial, f_90262, (tr_wa h_f_90262 (by decide) (by decide)), by rw [ht]; exact hP9, hD9⟩, hS.F ht⟩) hS.2.2 dX6_turnOpen_95
      · skip
        have c_90264_i := Int32.lt_iff_toInt_lt.mp (Int32.not_le.mp c_90264)
        have h_90265 : 0 ≤ (x_90260 : Int32).toInt ∧ (x_90260 : Int32).toInt ≤ 11 := by have q1 := h_x_90260; have q2 := h_n_nodes; omega
        have h_90266 : 1 ≤ (n_nodes : Int32).toInt ∧ (n_nodes : Int32).toInt ≤ 12 := by have q1 := h_x_90260; have q2 := h_n_nodes; omega
        refine lv_aload_n hx hb dX6_turnOpen_18 rfl (lv_at hl 2 rfl) ?_
        refine va_get (D := D) (ci := 6) (v := .ref n) (C := RX6) (T := TX6) (N := 4) hx hb hts inlX6 hown hK hP 0 rfl rfl 0 (by decide) (hts (Cond.fieldLink RX6 19 "ChanceRings$Solver" "net" "LChanceRings$Net;") qw_548) (fun _ h9 => h9) rfl dX6_turnOpen_19 ?_
        refine va_get (D := D) (ci := 2) (v := .ref n_kind) (C := RX2) (T := TX2) (N := 8) hx hb hts inlX2 hown hK hP 1 rfl rfl 1 (by decide) (hts (Cond.fieldLink RX6 61 "ChanceRings$Net" "kind" "[I") qw_551) (fun _ h9 => h9) rfl dX6_turnOpen_22 ?_
        refine lv_iload hx hb dX6_turnOpen_25 (lv_at hl 0 rfl) ?_
        refine va_iald hx hb hK hP 2 0 rfl rfl (tr_in h_90265 (by decide) (by decide)) dX6_turnOpen_27 ?_
        refine lv_topi (fun v_90267 v_90267_e => ?_)
        have h_v_90267 : 0 ≤ (v_90267 : Int32).toInt ∧ (v_90267 : Int32).toInt ≤ 3 := by rw [v_90267_e]; exact h_n_fkind _
        refine lv_iload_n hx hb dX6_turnOpen_28 rfl (lv_at hl 3 rfl) ?_
        refine lv_icmp_ne (tgt := 87) hx hb dX6_turnOpen_29 (by decide) (fun c_90268 => ?_) (fun c_90268 => ?_)
        · skip
          obtain ⟨v_90269, v_90269_e⟩ : ∃ y : Int32, y = x_90260 + Int32.ofInt 1 := ⟨_, rfl⟩
          have h_v_90269 : 1 ≤ (v_90269 : Int32).toInt ∧ (v_90269 : Int32).toInt ≤ 12 := by rw [v_90269_e]; exact tr_add h_90265 (⟨by decide, by decide⟩ : 1 ≤ (Int32.ofInt 1 : Int32).toInt ∧ (Int32.ofInt 1 : Int32).toInt ≤ 1) (by decide) (by decide) (by decide) (by decide)
          have q_v_90269 : v_90269.toInt = x_90260.toInt + 1 := by rw [v_90269_e]; exact tr_addE h_90265 (⟨by decide, by decide⟩ : 1 ≤ (Int32.ofInt 1 : Int32).toInt ∧ (Int32.ofInt 1 : Int32).toInt ≤ 1) (by decide) (by decide)
          refine lv_iinc (v := v_90269) (lv' := [(6, .int v_90269), (5, .int x_90261), (0, .ref sv), (1, .int p0), (2, .ref pl), (3, .ref vs), (4, .int p3)]) hx hb dX6_turnOpen_87 hl (k := 0) rfl v_90269_e.symm (by decide) rfl (fun ls hl => ?_)
          refine lv_goto (tgt := 6) hx hb dX6_turnOpen_90 (by decide) ?_
          exact ih_90263 v_90269 x_90261 f_90262 H _ ls (tr_w h_v_90269 (by decide) (by decide)) (tr_wa h_f_90262 (by decide) (by decide)) (by omega) (hP.sub [0, 1, 2, 3, 4, 5, 6, 7, 8] rfl) (hD.sub [0, 1, 2, 3, 4, 5, 6, 7, 8] (by decide) rfl) hS (lv_sub hl [0, 1, 2, 3, 4, 5, 6] rfl)
        · skip
          refine lv_aload_n hx hb dX6_turnOpen_32 rfl (lv_at hl 2 rfl) ?_
          refine va_get (D := D) (ci := 6) (v := .ref n) (C := RX6) (T := TX6) (N := 4) hx hb hts inlX6 hown hK hP 0 rfl rfl 0 (by decide) (hts (Cond.fieldLink RX6 19 "ChanceRings$Solver" "net" "LChanceRings$Net;") qw_548) (fun _ h9 => h9) rfl dX6_turnOpen_33 ?_
          refine va_get (D := D) (ci := 2) (v := .ref n_held) (C := RX2) (T := TX2) (N := 8) hx hb hts inlX2 hown hK hP 1 rfl rfl 5 (by decide) (hts (Cond.fieldLink RX6 38 "ChanceRings$Net" "held" "[I") qw_550) (fun _ h9 => h9) rfl dX6_turnOpen_36 ?_
          refine lv_iload hx hb dX6_turnOpen_39 (lv_at hl 0 rfl) ?_
          refine va_iald hx hb hK hP 4 0 rfl rfl (tr_in h_90265 (by decide) (by decide)) dX6_turnOpen_41 ?_
          refine lv_topi (fun v_90270 v_90270_e => ?_)
          have h_v_90270 : (-1) ≤ (v_90270 : Int32).toInt ∧ (v_90270 : Int32).toInt ≤ 2 := by rw [v_90270_e]; exact h_n_fheld _
          refine lv_iconst (v := (-1)) hx hb dX6_turnOpen_42 (by decide) ?_
          refine lv_icmp_ne (tgt := 87) hx hb dX6_turnOpen_43 (by decide) (fun c_90271 => ?_) (fun c_90271 => ?_)
          · skip
            have c_90271_i := c_90271
            have c_90271_i : ¬ (v_90270 : Int32).toInt = ((-1) : Int32).toInt := (fun q => c_90271 (Int32.toInt_inj.mp q))
            have h_90272 : 0 ≤ (v_90270 : Int32).toInt ∧ (v_90270 : Int32).toInt ≤ 2 := by have q1 := h_v_90270; have q2 := (⟨by decide, by decide⟩ : (-1) ≤ ((-1) : Int32).toInt ∧ ((-1) : Int32).toInt ≤ (-1)); omega
            obtain ⟨v_90274, v_90274_e⟩ : ∃ y : Int32, y = x_90260 + Int32.ofInt 1 := ⟨_, rfl⟩
            have h_v_90274 : 1 ≤ (v_90274 : Int32).toInt ∧ (v_90274 : Int32).toInt ≤ 12 := by rw [v_90274_e]; exact tr_add h_90265 (⟨by decide, by decide⟩ : 1 ≤ (Int32.ofInt 1 : Int32).toInt ∧ (Int32.ofInt 1 : Int32).toInt ≤ 1) (by decide) (by decide) (by decide) (by decide)
            have q_v_90274 : v_90274.toInt = x_90260.toInt + 1 := by rw [v_90274_e]; exact tr_addE h_90265 (⟨by decide, by decide⟩ : 1 ≤ (Int32.ofInt 1 : Int32).toInt ∧ (Int32.ofInt 1 : Int32).toInt ≤ 1) (by decide) (by decide)
            refine lv_iinc (v := v_90274) (lv' := [(6, .int v_90274), (5, .int x_90261), (0, .ref sv), (1, .int p0), (2, .ref pl), (3, .ref vs), (4, .int p3)]) hx hb dX6_turnOpen_87 hl (k := 0) rfl v_90274_e.symm (by decide) rfl (fun ls hl => ?_)
            refine lv_goto (tgt := 6) hx hb dX6_turnOpen_90 (by decide) ?_
            exact ih_90263 v_90274 x_90261 f_90262 H _ ls (tr_w h_v_90274 (by decide) (by decide)) (tr_wa h_f_90262 (by decide) (by decide)) (by omega) (hP.sub [0, 1, 2, 3, 4, 5, 6, 7, 8] rfl) (hD.sub [0, 1, 2, 3, 4, 5, 6, 7, 8] (by decide) rfl) hS (lv_sub hl [0, 1, 2, 3, 4, 5, 6] rfl)
          · skip
            have c_90271_i := c_90271
            have c_90271_i : (v_90270 : Int32).toInt = ((-1) : Int32).toInt := congrArg Int32.toInt c_90271
            have h_90273 : (-1) ≤ (v_90270 : Int32).toInt ∧ (v_90270 : Int32).toInt ≤ (-1) := by have q1 := h_v_90270; have q2 := (⟨by decide, by decide⟩ : (-1) ≤ ((-1) : Int32).toInt ∧ ((-1) : Int32).toInt ≤ (-1)); omega
            refine lv_iload hx hb dX6_turnOpen_46 (lv_at hl 6 rfl) ?_
            refine lv_iload hx hb dX6_turnOpen_48 (lv_at hl 0 rfl) ?_
            refine lv_ishr hx hb dX6_turnOpen_50 ?_
            refine lv_topi (fun v_90275 v_90275_e => ?_)
            refine lv_iconst (v := 1) hx hb dX6_turnOpen_51 (by decide) ?_
            refine lv_iand hx hb dX6_turnOpen_52 ?_
            refine lv_topi (fun v_90276 v_90276_e => ?_)
            refine lv_if_eq (tgt := 87) hx hb dX6_turnOpen_53 (by decide) (fun c_90277 => ?_) (fun c_90277 => ?_)
            · skip
              have h_90278 : 0 ≤ (v_90276 : Int32).toInt ∧ (v_90276 : Int32).toInt ≤ 0 := by rw [c_90277]; exact ⟨by decide, by decide⟩
              obtain ⟨v_90279, v_90279_e⟩ : ∃ y : Int32, y = x_90260 + Int32.ofInt 1 := ⟨_, rfl⟩
              have h_v_90279 : 1 ≤ (v_90279 : Int32).toInt ∧ (v_90279 : Int32).toInt ≤ 12 := by rw [v_90279_e]; exact tr_add h_90265 (⟨by decide, by decide⟩ : 1 ≤ (Int32.ofInt 1 : Int32).toInt ∧ (Int32.ofInt 1 : Int32).toInt ≤ 1) (by decide) (by decide) (by decide) (by decide)
              have q_v_90279 : v_90279.toInt = x_90260.toInt + 1 := by rw [v_90279_e]; exact tr_addE h_90265 (⟨by decide, by decide⟩ : 1 ≤ (Int32.ofInt 1 : Int32).toInt ∧ (Int32.ofInt 1 : Int32).toInt ≤ 1) (by decide) (by decide)
              refine lv_iinc (v := v_90279) (lv' := [(6, .int v_90279), (5, .int x_90261), (0, .ref sv), (1, .int p0), (2, .ref pl), (3, .ref vs), (4, .int p3)]) hx hb dX6_turnOpen_87 hl (k := 0) rfl v_90279_e.symm (by decide) rfl (fun ls hl => ?_)
              refine lv_goto (tgt := 6) hx hb dX6_turnOpen_90 (by decide) ?_
              exact ih_90263 v_90279 x_90261 f_90262 H _ ls (tr_w h_v_90279 (by decide) (by decide)) (tr_wa h_f_90262 (by decide) (by decide)) (by omega) (hP.sub [0, 1, 2, 3, 4, 5, 6, 7, 8] rfl) (hD.sub [0, 1, 2, 3, 4, 5, 6, 7, 8] (by decide) rfl) hS (lv_sub hl [0, 1, 2, 3, 4, 5, 6] rfl)
            · skip
              refine lv_aload_n hx hb dX6_turnOpen_56 rfl (lv_at hl 2 rfl) ?_
              refine lv_iload hx hb dX6_turnOpen_57 (lv_at hl 0 rfl) ?_
              refine lv_aload_n hx hb dX6_turnOpen_59 rfl (lv_at hl 4 rfl) ?_
              refine lv_iload hx hb dX6_turnOpen_60 (lv_at hl 0 rfl) ?_
              refine va_iald hx hb hK hP 8 0 rfl rfl (tr_in h_90265 (by decide) (by decide)) dX6_turnOpen_62 ?_
              refine lv_topi (fun v_90280 v_90280_e => ?_)
              have h_v_90280 : 0 ≤ (v_90280 : Int32).toInt ∧ (v_90280 : Int32).toInt ≤ 2 := by rw [v_90280_e]; exact h_f_90262 _
              refine lv_aload_n hx hb dX6_turnOpen_63 rfl (lv_at hl 5 rfl) ?_
              have hPc := hP.sub (ws' := [(sv, .inr (6, [.ref n, .ref co, .ref sv_keep, .ref sv_scaled])), (n, .inr (2, [.int n_nodes, .ref n_kind, .ref n_pay, .ref n_name, .ref n_ways, .ref n_held, .ref n_targets, .ref n_weights])), (n_kind, .inl (g 0, 12, .inl n_fkind)), (n_ways, .inl (g 0, 12, .inl n_fways)), (n_targets, .inl (g 0, 36, .inl n_ftargets)), (vs, .inr (10, [.ref vs_part, .long vsw])), (vs_part, .inl (g 1, 12, .inr (.inl vsp)))]) [0, 1, 2, 3, 5, 6, 7] rfl
              refine vp_callSi (va_Run.run (va_runV (As := [.int x_90260, .int v_90280, .ref vs]) (rest := []) ⟨hx, hb, hml, hown, hts⟩ (c_X6_betterWay l D g sv x_90260 v_90280 vs n co sv_keep sv_scaled n_nodes n_kind n_pay n_name n_ways n_held n_targets n_weights n_fkind n_fways n_ftargets vs_part vsw vsp (tr_w h_90265 (by decide) (by decide)) (tr_w h_v_90280 (by decide) (by decide)) (tr_w h_90266 (by decide) (by decide)) (tr_wa h_n_fkind (by decide) (by decide)) (tr_wa h_n_fways (by decide) (by decide)) (tr_wa h_n_ftargets (by decide) (by decide))) (cwV 3 hts (tz_gV qw_555 qw_556 qw_557 qw_558 qw_559) rfl rfl rfl (by decide +kernel) ⟨Nat.le_of_ble_eq_true rfl, Nat.le_of_ble_eq_true rfl⟩) ⟨tz_blS, va_recv hK hPc (ci := 6) (q0 := 0) rfl rfl, tz_preS hPc hK⟩ rfl rfl hl.1 rfl (lv_room (Nat.le_of_ble_eq_true rfl)) dX6_turnOpen_64 ⟨Nat.le_of_ble_eq_true rfl, Nat.le_of_ble_eq_true rfl⟩)) (fun r_90281 hw => ?_)
              have hw_90282 : 0 ≤ (r_90281 : Int32).toInt ∧ (r_90281 : Int32).toInt ≤ 2 := hw
              refine lv_istore (lv' := [(7, .int r_90281), (6, .int x_90260), (5, .int x_90261), (0, .ref sv), (1, .int p0), (2, .ref pl), (3, .ref vs), (4, .int p3)]) hx hb dX6_turnOpen_67 hl (by decide) rfl (fun ls hl => ?_)
              refine lv_iload hx hb dX6_turnOpen_69 (lv_at hl 0 rfl) ?_
              refine lv_aload_n hx hb dX6_turnOpen_71 rfl (lv_at hl 5 rfl) ?_
              refine lv_iload hx hb dX6_turnOpen_72 (lv_at hl 1 rfl) ?_
              refine va_iald hx hb hK hP 8 0 rfl rfl (tr_in h_90265 (by decide) (by decide)) dX6_turnOpen_74 ?_
              refine tz_i (y := v_90280) v_90280_e.symm ?_
              refine lv_icmp_eq (tgt := 87) hx hb dX6_turnOpen_75 (by decide) (fun c_90283 => ?_) (fun c_90283 => ?_)
              · skip
                obtain ⟨v_90284, v_90284_e⟩ : ∃ y : Int32, y = x_90260 + Int32.ofInt 1 := ⟨_, rfl⟩
                have h_v_90284 : 1 ≤ (v_90284 : Int32).toInt ∧ (v_90284 : Int32).toInt ≤ 12 := by rw [v_90284_e]; exact tr_add h_90265 (⟨by decide, by decide⟩ : 1 ≤ (Int32.ofInt 1 : Int32).toInt ∧ (Int32.ofInt 1 : Int32).toInt ≤ 1) (by decide) (by decide) (by decide) (by decide)
                have q_v_90284 : v_90284.toInt = x_90260.toInt + 1 := by rw [v_90284_e]; exact tr_addE h_90265 (⟨by decide, by decide⟩ : 1 ≤ (Int32.ofInt 1 : Int32).toInt ∧ (Int32.ofInt 1 : Int32).toInt ≤ 1) (by decide) (by decide)
                refine lv_iinc (v := v_90284) (lv' := [(6, .int v_90284), (7, .int r_90281), (5, .int x_90261), (0, .ref sv), (1, .int p0), (2, .ref pl), (3, .ref vs), (4, .int p3)]) hx hb dX6_turnOpen_87 hl (k := 1) rfl v_90284_e.symm (by decide) rfl (fun ls hl => ?_)
                refine lv_goto (tgt := 6) hx hb dX6_turnOpen_90 (by decide) ?_
                exact ih_90263 v_90284 x_90261 f_90262 H _ ls (tr_w h_v_90284 (by decide) (by decide)) (tr_wa h_f_90262 (by decide) (by decide)) (by omega) (hP.sub [0, 1, 2, 3, 4, 5, 6, 7, 8] rfl) (hD.sub [0, 1, 2, 3, 4, 5, 6, 7, 8] (by decide) rfl) hS (lv_sub hl [0, 2, 3, 4, 5, 6, 7] rfl)
              · skip
                refine lv_aload_n hx hb dX6_turnOpen_78 rfl (lv_at hl 5 rfl) ?_
                refine lv_iload hx hb dX6_turnOpen_79 (lv_at hl 1 rfl) ?_
                refine lv_iload hx hb dX6_turnOpen_81 (lv_at hl 0 rfl) ?_
                refine va_iast hx hb hK hP hD hS 8 0 rfl rfl (tr_in h_90265 (by decide) (by decide)) dX6_turnOpen_83 (fun H locs hP hD hS => ?_)
                obtain ⟨f_90285, h_f_90285, hP, hD⟩ : ∃ FX : Nat → Int32, (∀ j : Nat, 0 ≤ (FX j).toInt ∧ (FX j).toInt ≤ 2) ∧ va_P D vwCl [(sv, .inr (6, [.ref n, .ref co, .ref sv_keep, .ref sv_scaled])), (n, .inr (2, [.int n_nodes, .ref n_kind, .ref n_pay, .ref n_name, .ref n_ways, .ref n_held, .ref n_targets, .ref n_weights])), (n_kind, .inl (g 0, 12, .inl n_fkind)), (n_ways, .inl (g 0, 12, .inl n_fways)), (n_held, .inl (g 0, 12, .inl n_fheld)), (n_targets, .inl (g 0, 36, .inl n_ftargets)), (vs, .inr (10, [.ref vs_part, .long vsw])), (vs_part, .inl (g 1, 12, .inr (.inl vsp))), (pl, .inl (g 0, 12, .inl FX))] H ∧ va_D A [(sv, .inr (6, [.ref n, .ref co, .ref sv_keep, .ref sv_scaled])), (n, .inr (2, [.int n_nodes, .ref n_kind, .ref n_pay, .ref n_name, .ref n_ways, .ref n_held, .ref n_targets, .ref n_weights])), (n_kind, .inl (g 0, 12, .inl n_fkind)), (n_ways, .inl (g 0, 12, .inl n_fways)), (n_held, .inl (g 0, 12, .inl n_fheld)), (n_targets, .inl (g 0, 36, .inl n_ftargets)), (vs, .inr (10, [.ref vs_part, .long vsw])), (vs_part, .inl (g 1, 12, .inr (.inl vsp))), (pl, .inl (g 0, 12, .inl FX))] := ⟨_, tr_upd h_f_90262 (tr_w hw_90282 (by decide) (by decide)), hP, hD⟩
                have hP : va_P D vwCl [(sv, .inr (6, [.ref n, .ref co, .ref sv_keep, .ref sv_scaled])), (n, .inr (2, [.int n_nodes, .ref n_kind, .ref n_pay, .ref n_name, .ref n_ways, .ref n_held, .ref n_targets, .ref n_weights])), (n_kind, .inl (g 0, 12, .inl n_fkind)), (n_ways, .inl (g 0, 12, .inl n_fways)), (n_held, .inl (g 0, 12, .inl n_fheld)), (n_targets, .inl (g 0, 36, .inl n_ftargets)), (vs, .inr (10, [.ref vs_part, .long vsw])), (vs_part, .inl (g 1, 12, .inr (.inl vsp))), (pl, .inl (g 0, 12, .inl f_90285))] H := hP
                have hD : va_D A [(sv, .inr (6, [.ref n, .ref co, .ref sv_keep, .ref sv_scaled])), (n, .inr (2, [.int n_nodes, .ref n_kind, .ref n_pay, .ref n_name, .ref n_ways, .ref n_held, .ref n_targets, .ref n_weights])), (n_kind, .inl (g 0, 12, .inl n_fkind)), (n_ways, .inl (g 0, 12, .inl n_fways)), (n_held, .inl (g 0, 12, .inl n_fheld)), (n_targets, .inl (g 0, 36, .inl n_ftargets)), (vs, .inr (10, [.ref vs_part, .long vsw])), (vs_part, .inl (g 1, 12, .inr (.inl vsp))), (pl, .inl (g 0, 12, .inl f_90285))] := hD
                obtain ⟨v_90286, v_90286_e⟩ : ∃ y : Int32, y = x_90261 + Int32.ofInt 1 := ⟨_, rfl⟩
                refine lv_iinc (v := v_90286) (lv' := [(5, .int v_90286), (7, .int r_90281), (6, .int x_90260), (0, .ref sv), (1, .int p0), (2, .ref pl), (3, .ref vs), (4, .int p3)]) hx hb dX6_turnOpen_84 hl (k := 2) rfl v_90286_e.symm (by decide) rfl (fun ls hl => ?_)
                obtain ⟨v_90287, v_90287_e⟩ : ∃ y : Int32, y = x_90260 + Int32.ofInt 1 := ⟨_, rfl⟩
                have h_v_90287 : 1 ≤ (v_90287 : Int32).toInt ∧ (v_90287 : Int32).toInt ≤ 12 := by rw [v_90287_e]; exact tr_add h_90265 (⟨by decide, by decide⟩ : 1 ≤ (Int32.ofInt 1 : Int32).toInt ∧ (Int32.ofInt 1 : Int32).toInt ≤ 1) (by decide) (by decide) (by decide) (by decide)
                have q_v_90287 : v_90287.toInt = x_90260.toInt + 1 := by rw [v_90287_e]; exact tr_addE h_90265 (⟨by decide, by decide⟩ : 1 ≤ (Int32.ofInt 1 : Int32).toInt ∧ (Int32.ofInt 1 : Int32).toInt ≤ 1) (by decide) (by decide)
                refine lv_iinc (v := v_90287) (lv' := [(6, .int v_90287), (5, .int v_90286), (7, .int r_90281), (0, .ref sv), (1, .int p0), (2, .ref pl), (3, .ref vs), (4, .int p3)]) hx hb dX6_turnOpen_87 hl (k := 2) rfl v_90287_e.symm (by decide) rfl (fun ls hl => ?_)
                refine lv_goto (tgt := 6) hx hb dX6_turnOpen_90 (by decide) ?_
                exact ih_90263 v_90287 v_90286 f_90285 H _ ls (tr_w h_v_90287 (by decide) (by decide)) (tr_wa h_f_90285 (by decide) (by decide)) (by omega) (hP.sub [0, 1, 2, 3, 4, 5, 6, 7, 8] rfl) (hD.sub [0, 1, 2, 3, 4, 5, 6, 7, 8] (by decide) rfl) hS (lv_sub hl [0, 1, 3, 4, 5, 6, 7] rfl)
  exact lp_90263 13 0 0 plf s.heap _ ls (⟨by decide, by decide⟩ : 0 ≤ (0 : Int32).toInt ∧ (0 : Int32).toInt ≤ 12) (tr_wa h_plf (by decide) (by decide)) (by decide) (hP.sub [0, 1, 2, 3, 4, 5, 6, 7, 8] rfl) (hD.sub [0, 1, 2, 3, 4, 5, 6, 7, 8] (by decide) rfl) hS (lv_sub hl [0, 1, 2, 3, 4, 5, 6] rfl)
set_option maxHeartbeats 4000000 in
set_option maxRecDepth 100000 in
theorem c_X6_turn (l : Launch) (D : va_G) (g : Nat → ClassId) (sz : Nat) (sv : Nat) (p0 : Int32) (pl : Nat) (vs : Nat) (n : Nat) (co : Nat) (sv_keep : Nat) (sv_scaled : Nat) (n_nodes : Int32) (n_kind : Nat) (n_pay : Nat) (n_name : Nat) (n_ways : Nat) (n_held : Nat) (n_targets : Nat) (n_weights : Nat) (n_fkind : Nat → Int32) (n_fways : Nat → Int32) (n_fheld : Nat → Int32) (n_ftargets : Nat → Int32) (vs_part : Nat) (vsw : Int64) (vsp : Nat → Int64) (plf : Nat → Int32) (h_n_nodes : 0 ≤ (n_nodes : Int32).toInt ∧ (n_nodes : Int32).toInt ≤ 12) (h_n_fkind : ∀ j : Nat, 0 ≤ (n_fkind j).toInt ∧ (n_fkind j).toInt ≤ 3) (h_n_fways : ∀ j : Nat, 0 ≤ (n_fways j).toInt ∧ (n_fways j).toInt ≤ 3) (h_n_fheld : ∀ j : Nat, (-1) ≤ (n_fheld j).toInt ∧ (n_fheld j).toInt ≤ 2) (h_n_ftargets : ∀ j : Nat, 0 ≤ (n_ftargets j).toInt ∧ (n_ftargets j).toInt ≤ 11) (h_plf : ∀ j : Nat, 0 ≤ (plf j).toInt ∧ (plf j).toInt ≤ 2) : Met l yX6_turn (.code yX6_turn cX6_turn 4 (some .int) :: wsL_law) ({ frames := 3, cells := 0, slots := 0, locals := 77 }) (va_Pc [.ref sv, .int p0, .ref pl, .ref vs] (fun U => U.heap.size = sz ∧ va_P D vwCl [(sv, .inr (6, [.ref n, .ref co, .ref sv_keep, .ref sv_scaled])), (n, .inr (2, [.int n_nodes, .ref n_kind, .ref n_pay, .ref n_name, .ref n_ways, .ref n_held, .ref n_targets, .ref n_weights])), (n_kind, .inl (g 0, 12, .inl n_fkind)), (n_ways, .inl (g 0, 12, .inl n_fways)), (n_held, .inl (g 0, 12, .inl n_fheld)), (n_targets, .inl (g 0, 36, .inl n_ftargets)), (vs, .inr (10, [.ref vs_part, .long vsw])), (vs_part, .inl (g 1, 12, .inr (.inl vsp))), (pl, .inl (g 0, 12, .inl plf))] U.heap ∧ va_K D vwCl (TY g) U ∧ va_D (fun _ => True) [(sv, .inr (6, [.ref n, .ref co, .ref sv_keep, .ref sv_scaled])), (n, .inr (2, [.int n_nodes, .ref n_kind, .ref n_pay, .ref n_name, .ref n_ways, .ref n_held, .ref n_targets, .ref n_weights])), (n_kind, .inl (g 0, 12, .inl n_fkind)), (n_ways, .inl (g 0, 12, .inl n_fways)), (n_held, .inl (g 0, 12, .inl n_fheld)), (n_targets, .inl (g 0, 36, .inl n_ftargets)), (vs, .inr (10, [.ref vs_part, .long vsw])), (vs_part, .inl (g 1, 12, .inr (.inl vsp))), (pl, .inl (g 0, 12, .inl plf))])) (va_Qi (fun r (_ : Unit) => True) (fun _ t => ∃ opl : Nat → Int32, (∀ j : Nat, 0 ≤ (opl j).toInt ∧ (opl j).toInt ≤ 2) ∧ va_P D vwCl [(sv, .inr (6, [.ref n, .ref co, .ref sv_keep, .ref sv_scaled])), (n, .inr (2, [.int n_nodes, .ref n_kind, .ref n_pay, .ref n_name, .ref n_ways, .ref n_held, .ref n_targets, .ref n_weights])), (n_kind, .inl (g 0, 12, .inl n_fkind)), (n_ways, .inl (g 0, 12, .inl n_fways)), (n_held, .inl (g 0, 12, .inl n_fheld)), (n_targets, .inl (g 0, 36, .inl n_ftargets)), (vs, .inr (10, [.ref vs_part, .long vsw])), (vs_part, .inl (g 1, 12, .inr (.inl vsp))), (pl, .inl (g 0, 12, .inl opl))] t.heap ∧ va_D (va_A [(sv, .inr (6, [.ref n, .ref co, .ref sv_keep, .ref sv_scaled])), (n, .inr (2, [.int n_nodes, .ref n_kind, .ref n_pay, .ref n_name, .ref n_ways, .ref n_held, .ref n_targets, .ref n_weights])), (n_kind, .inl (g 0, 12, .inl n_fkind)), (n_ways, .inl (g 0, 12, .inl n_fways)), (n_held, .inl (g 0, 12, .inl n_fheld)), (n_targets, .inl (g 0, 36, .inl n_ftargets)), (vs, .inr (10, [.ref vs_part, .long vsw])), (vs_part, .inl (g 1, 12, .inr (.inl vsp))), (pl, .inl (g 0, 12, .inl plf))] sz) [(sv, .inr (6, [.ref n, .ref co, .ref sv_keep, .ref sv_scaled])), (n, .inr (2, [.int n_nodes, .ref n_kind, .ref n_pay, .ref n_name, .ref n_ways, .ref n_held, .ref n_targets, .ref n_weights])), (n_kind, .inl (g 0, 12, .inl n_fkind)), (n_ways, .inl (g 0, 12, .inl n_fways)), (n_held, .inl (g 0, 12, .inl n_fheld)), (n_targets, .inl (g 0, 36, .inl n_ftargets)), (vs, .inr (10, [.ref vs_part, .long vsw])), (vs_part, .inl (g 1, 12, .inr (.inl vsp))), (pl, .inl (g 0, 12, .inl opl))]) (va_A [(sv, .inr (6, [.ref n, .ref co, .ref sv_keep, .ref sv_scaled])), (n, .inr (2, [.int n_nodes, .ref n_kind, .ref n_pay, .ref n_name, .ref n_ways, .ref n_held, .ref n_targets, .ref n_weights])), (n_kind, .inl (g 0, 12, .inl n_fkind)), (n_ways, .inl (g 0, 12, .inl n_fways)), (n_held, .inl (g 0, 12, .inl n_fheld)), (n_targets, .inl (g 0, 36, .inl n_ftargets)), (vs, .inr (10, [.ref vs_part, .long vsw])), (vs_part, .inl (g 1, 12, .inr (.inl vsp))), (pl, .inl (g 0, 12, .inl plf))] sz)) 0 0 (va_A [(sv, .inr (6, [.ref n, .ref co, .ref sv_keep, .ref sv_scaled])), (n, .inr (2, [.int n_nodes, .ref n_kind, .ref n_pay, .ref n_name, .ref n_ways, .ref n_held, .ref n_targets, .ref n_weights])), (n_kind, .inl (g 0, 12, .inl n_fkind)), (n_ways, .inl (g 0, 12, .inl n_fways)), (n_held, .inl (g 0, 12, .inl n_fheld)), (n_targets, .inl (g 0, 36, .inl n_ftargets)), (vs, .inr (10, [.ref vs_part, .long vsw])), (vs_part, .inl (g 1, 12, .inr (.inl vsp))), (pl, .inl (g 0, 12, .inl plf))] sz) := by
  refine Met.ofW (cc := cX6_turn) (maxL := 4) (ret := (some .int)) (by decide) rfl ?_
  intro p e s m args below meth c s₁ B hml hv
  obtain ⟨ha, hsz, hP, hK, hD0⟩ := hv
  have hx := B.exec
  have hb := B.bytes
  have hr := B.returns
  have hts0 := atoms_spec (ws := (.code yX6_turn cX6_turn 4 (some .int) :: wsL_law)) B.pre
  have hts : ∀ w ∈ wsL_law, w.before args s = true := fun w h => hts0 w (List.mem_cons_of_mem _ h)
  have hown : s.vm.findClass RX6 = some m.cls := findClass_of_methodNamed B.named
  have hlocks := B.notSynchronized
  subst hsz
  have hD := hD0.self (sz := s.heap.size)
  generalize hAe : va_A [(sv, .inr (6, [.ref n, .ref co, .ref sv_keep, .ref sv_scaled])), (n, .inr (2, [.int n_nodes, .ref n_kind, .ref n_pay, .ref n_name, .ref n_ways, .ref n_held, .ref n_targets, .ref n_weights])), (n_kind, .inl (g 0, 12, .inl n_fkind)), (n_ways, .inl (g 0, 12, .inl n_fways)), (n_held, .inl (g 0, 12, .inl n_fheld)), (n_targets, .inl (g 0, 36, .inl n_ftargets)), (vs, .inr (10, [.ref vs_part, .long vsw])), (vs_part, .inl (g 1, 12, .inr (.inl vsp))), (pl, .inl (g 0, 12, .inl plf))] s.heap.size = A at hD ⊢
  have hA : ∀ q : Nat, s.heap.size ≤ q → A q := fun q h => by rw [← hAe]; exact Or.inr h
  have hS : va_S A s.heap s.heap [] := va_S.rf
  have hP : va_P D vwCl [(sv, .inr (6, [.ref n, .ref co, .ref sv_keep, .ref sv_scaled])), (n, .inr (2, [.int n_nodes, .ref n_kind, .ref n_pay, .ref n_name, .ref n_ways, .ref n_held, .ref n_targets, .ref n_weights])), (n_kind, .inl (g 0, 12, .inl n_fkind)), (n_ways, .inl (g 0, 12, .inl n_fways)), (n_held, .inl (g 0, 12, .inl n_fheld)), (n_targets, .inl (g 0, 36, .inl n_ftargets)), (vs, .inr (10, [.ref vs_part, .long vsw])), (vs_part, .inl (g 1, 12, .inr (.inl vsp))), (pl, .inl (g 0, 12, .inl plf))] s.heap := hP
  refine W.eq (g2 := entryFrame m ([.ref sv, .int p0, .ref pl, .ref vs] : List Value).toArray 4) (by rw [ha]) ?_
  have hl := lv_entry ([.ref sv, .int p0, .ref pl, .ref vs]) (n := 4) (Nat.le_of_ble_eq_true rfl)
  rw [lg_entry_eq]
  generalize (lg_sl ([.ref sv, .int p0, .ref pl, .ref vs]) ++ List.replicate (4 - (lg_sl ([.ref sv, .int p0, .ref pl, .ref vs])).length) Slot.unset).toArray = ls at hl ⊢
  have hl : lv_has ls 4 [(0, .ref sv), (1, .int p0), (2, .ref pl), (3, .ref vs)] := hl
  refine lv_aload_n hx hb dX6_turn_0 rfl (lv_at hl 0 rfl) ?_
  refine lv_iload_n hx hb dX6_turn_1 rfl (lv_at hl 1 rfl) ?_
  refine lv_aload_n hx hb dX6_turn_2 rfl (lv_at hl 2 rfl) ?_
  refine lv_aload_n hx hb dX6_turn_3 rfl (lv_at hl 3 rfl) ?_
  refine lv_iconst (v := (-1)) hx hb dX6_turn_4 (by decide) ?_
  have hPc := hP.sub (ws' := [(sv, .inr (6, [.ref n, .ref co, .ref sv_keep, .ref sv_scaled])), (n, .inr (2, [.int n_nodes, .ref n_kind, .ref n_pay, .ref n_name, .ref n_ways, .ref n_held, .ref n_targets, .ref n_weights])), (n_kind, .inl (g 0, 12, .inl n_fkind)), (n_ways, .inl (g 0, 12, .inl n_fways)), (n_held, .inl (g 0, 12, .inl n_fheld)), (n_targets, .inl (g 0, 36, .inl n_ftargets)), (vs, .inr (10, [.ref vs_part, .long vsw])), (vs_part, .inl (g 1, 12, .inr (.inl vsp))), (pl, .inl (g 0, 12, .inl plf))]) [0, 1, 2, 3, 4, 5, 6, 7, 8] rfl
  have hDc := hD.sub (ws' := [(sv, .inr (6, [.ref n, .ref co, .ref sv_keep, .ref sv_scaled])), (n, .inr (2, [.int n_nodes, .ref n_kind, .ref n_pay, .ref n_name, .ref n_ways, .ref n_held, .ref n_targets, .ref n_weights])), (n_kind, .inl (g 0, 12, .inl n_fkind)), (n_ways, .inl (g 0, 12, .inl n_fways)), (n_held, .inl (g 0, 12, .inl n_fheld)), (n_targets, .inl (g 0, 36, .inl n_ftargets)), (vs, .inr (10, [.ref vs_part, .long vsw])), (vs_part, .inl (g 1, 12, .inr (.inl vsp))), (pl, .inl (g 0, 12, .inl plf))]) [0, 1, 2, 3, 4, 5, 6, 7, 8] (by decide) rfl
  have hFc := va_free (wc := [(sv, .inr (6, [.ref n, .ref co, .ref sv_keep, .ref sv_scaled])), (n, .inr (2, [.int n_nodes, .ref n_kind, .ref n_pay, .ref n_name, .ref n_ways, .ref n_held, .ref n_targets, .ref n_weights])), (n_kind, .inl (g 0, 12, .inl n_fkind)), (n_ways, .inl (g 0, 12, .inl n_fways)), (n_held, .inl (g 0, 12, .inl n_fheld)), (n_targets, .inl (g 0, 36, .inl n_ftargets)), (vs, .inr (10, [.ref vs_part, .long vsw])), (vs_part, .inl (g 1, 12, .inr (.inl vsp))), (pl, .inl (g 0, 12, .inl plf))]) hD hS hA [0, 1, 2, 3, 4, 5, 6, 7, 8] rfl
  refine va_calli (va_runV (As := [.int p0, .ref pl, .ref vs, .int (-1)]) (rest := []) ⟨hx, hb, hml, hown, hts⟩ (c_X6_turnOpen l D g s.heap.size sv p0 pl vs (-1) n co sv_keep sv_scaled n_nodes n_kind n_pay n_name n_ways n_held n_targets n_weights n_fkind n_fways n_fheld n_ftargets vs_part vsw vsp plf (tr_w h_n_nodes (by decide) (by decide)) (tr_wa h_n_fkind (by decide) (by decide)) (tr_wa h_n_fways (by decide) (by decide)) (tr_wa h_n_fheld (by decide) (by decide)) (tr_wa h_n_ftargets (by decide) (by decide)) (tr_wa h_plf (by decide) (by decide))) (cwV 4 hts (tz_gV qw_560 qw_561 qw_562 qw_558 qw_563) rfl rfl rfl (by decide +kernel) ⟨Nat.le_of_ble_eq_true rfl, Nat.le_of_ble_eq_true rfl⟩) ⟨tz_blQ, va_recv hK hPc (ci := 6) (q0 := 0) rfl rfl, tz_preQ hPc hK hDc⟩ rfl rfl hl.1 rfl (lv_room (Nat.le_of_ble_eq_true rfl)) dX6_turn_5 ⟨Nat.le_of_ble_eq_true rfl, Nat.le_of_ble_eq_true rfl⟩) hS (fun q _ h => hFc q h) hFc (fun r_90288 u t H1 locs ht hvm hw hB hz1 hk1 hS => ?_)
  obtain ⟨opl_90289, hf_90290, hP1, hD1⟩ := hB
  rw [ht] at hP1
  obtain ⟨hP, hD⟩ := va_join (wr := []) (w1 := [(sv, .inr (6, [.ref n, .ref co, .ref sv_keep, .ref sv_scaled])), (n, .inr (2, [.int n_nodes, .ref n_kind, .ref n_pay, .ref n_name, .ref n_ways, .ref n_held, .ref n_targets, .ref n_weights])), (n_kind, .inl (g 0, 12, .inl n_fkind)), (n_ways, .inl (g 0, 12, .inl n_fways)), (n_held, .inl (g 0, 12, .inl n_fheld)), (n_targets, .inl (g 0, 36, .inl n_ftargets)), (vs, .inr (10, [.ref vs_part, .long vsw])), (vs_part, .inl (g 1, 12, .inr (.inl vsp))), (pl, .inl (g 0, 12, .inl opl_90289))]) hP hD [0, 1, 2, 3, 4, 5, 6, 7, 8] [] rfl rfl (by decide) (by decide) hk1 hFc hP1 hD1
  generalize H1 = H at hP hS ⊢
  have hP : va_P D vwCl [(sv, .inr (6, [.ref n, .ref co, .ref sv_keep, .ref sv_scaled])), (n, .inr (2, [.int n_nodes, .ref n_kind, .ref n_pay, .ref n_name, .ref n_ways, .ref n_held, .ref n_targets, .ref n_weights])), (n_kind, .inl (g 0, 12, .inl n_fkind)), (n_ways, .inl (g 0, 12, .inl n_fways)), (n_held, .inl (g 0, 12, .inl n_fheld)), (n_targets, .inl (g 0, 36, .inl n_ftargets)), (vs, .inr (10, [.ref vs_part, .long vsw])), (vs_part, .inl (g 1, 12, .inr (.inl vsp))), (pl, .inl (g 0, 12, .inl opl_90289))] H := hP
  have hD : va_D A [(sv, .inr (6, [.ref n, .ref co, .ref sv_keep, .ref sv_scaled])), (n, .inr (2, [.int n_nodes, .ref n_kind, .ref n_pay, .ref n_name, .ref n_ways, .ref n_held, .ref n_targets, .ref n_weights])), (n_kind, .inl (g 0, 12, .inl n_fkind)), (n_ways, .inl (g 0, 12, .inl n_fways)), (n_held, .inl (g 0, 12, .inl n_fheld)), (n_targets, .inl (g 0, 36, .inl n_ftargets)), (vs, .inr (10, [.ref vs_part, .long vsw])), (vs_part, .inl (g 1, 12, .inr (.inl vsp))), (pl, .inl (g 0, 12, .inl opl_90289))] := hD
  have hP9 := hP.sub (ws' := [(sv, .inr (6, [.ref n, .ref co, .ref sv_keep, .ref sv_scaled])), (n, .inr (2, [.int n_nodes, .ref n_kind, .ref n_pay, .ref n_name, .ref n_ways, .ref n_held, .ref n_targets, .ref n_weights])), (n_kind, .inl (g 0, 12, .inl n_fkind)), (n_ways, .inl (g 0, 12, .inl n_fways)), (n_held, .inl (g 0, 12, .inl n_fheld)), (n_targets, .inl (g 0, 36, .inl n_ftargets)), (vs, .inr (10, [.ref vs_part, .long vsw])), (vs_part, .inl (g 1, 12, .inr (.inl vsp))), (pl, .inl (g 0, 12, .inl opl_90289))]) [0, 1, 2, 3, 4, 5, 6, 7, 8] rfl
  have hD9 := hD.sub (ws' := [(sv, .inr (6, [.ref n, .ref co, .ref sv_keep, .ref sv_scaled])), (n, .inr (2, [.int n_nodes, .ref n_kind, .ref n_pay, .ref n_name, .ref n_ways, .ref n_held, .ref n_targets, .ref n_weights])), (n_kind, .inl (g 0, 12, .inl n_fkind)), (n_ways, .inl (g 0, 12, .inl n_fways)), (n_held, .inl (g 0, 12, .inl n_fheld)), (n_targets, .inl (g 0, 36, .inl n_ftargets)), (vs, .inr (10, [.ref vs_part, .long vsw])), (vs_part, .inl (g 1, 12, .inr (.inl vsp))), (pl, .inl (g 0, 12, .inl opl_90289))]) [0, 1, 2, 3, 4, 5, 6, 7, 8] (by decide) rfl
  exact W.iret (v := r_90288) hx hb hr (fun t ht hW => ⟨⟨r_90288, (), rfl, trivial, opl_90289, (tr_wa hf_90290 (by decide) (by decide)), by rw [ht]; exact hP9, hD9⟩, hS.F ht⟩) hS.2.2 dX6_turn_8
set_option maxHeartbeats 4000000 in
set_option maxRecDepth 100000 in
theorem c_X6_unavoidable (l : Launch) (D : va_G) (g : Nat → ClassId) (sv : Nat) (pl : Nat) (n : Nat) (co : Nat) (sv_keep : Nat) (sv_scaled : Nat) (eq : Nat) (co_place : Nat) (n_nodes : Int32) (n_kind : Nat) (n_pay : Nat) (n_name : Nat) (n_ways : Nat) (n_held : Nat) (n_targets : Nat) (n_weights : Nat) (n_fkind : Nat → Int32) (n_fpay : Nat → Int32) (n_fways : Nat → Int32) (n_fheld : Nat → Int32) (n_ftargets : Nat → Int32) (n_fweights : Nat → Int32) (plf : Nat → Int32) (h_n_nodes : 0 ≤ (n_nodes : Int32).toInt ∧ (n_nodes : Int32).toInt ≤ 12) (h_n_fkind : ∀ j : Nat, 0 ≤ (n_fkind j).toInt ∧ (n_fkind j).toInt ≤ 3) (h_n_fways : ∀ j : Nat, 0 ≤ (n_fways j).toInt ∧ (n_fways j).toInt ≤ 3) (h_n_fheld : ∀ j : Nat, (-1) ≤ (n_fheld j).toInt ∧ (n_fheld j).toInt ≤ 2) (h_n_ftargets : ∀ j : Nat, 0 ≤ (n_ftargets j).toInt ∧ (n_ftargets j).toInt ≤ 11) (h_plf : ∀ j : Nat, 0 ≤ (plf j).toInt ∧ (plf j).toInt ≤ 2) : Met l yX6_unavoidable (.code yX6_unavoidable cX6_unavoidable 8 (some .int) :: wsL_law) ({ frames := 2, cells := 0, slots := 0, locals := 47 }) (va_Pc [.ref sv, .ref pl] (fun U => va_P D vwCl [(sv, .inr (6, [.ref n, .ref co, .ref sv_keep, .ref sv_scaled])), (co, .inr (0, [.ref n, .ref eq, .ref co_place])), (n, .inr (2, [.int n_nodes, .ref n_kind, .ref n_pay, .ref n_name, .ref n_ways, .ref n_held, .ref n_targets, .ref n_weights])), (n_kind, .inl (g 0, 12, .inl n_fkind)), (n_pay, .inl (g 0, 12, .inl n_fpay)), (n_ways, .inl (g 0, 12, .inl n_fways)), (n_held, .inl (g 0, 12, .inl n_fheld)), (n_targets, .inl (g 0, 36, .inl n_ftargets)), (n_weights, .inl (g 0, 36, .inl n_fweights)), (pl, .inl (g 0, 12, .inl plf))] U.heap ∧ va_K D vwCl (TY g) U)) (vp_Si (fun r => True)) 0 0 (fun _ => False) := by
  refine Met.ofW (cc := cX6_unavoidable) (maxL := 8) (ret := (some .int)) (by decide) rfl ?_
  intro p e s m args below meth c s₁ B hml hv
  obtain ⟨ha, hP, hK⟩ := hv
  have hx := B.exec
  have hb := B.bytes
  have hr := B.returns
  have hts0 := atoms_spec (ws := (.code yX6_unavoidable cX6_unavoidable 8 (some .int) :: wsL_law)) B.pre
  have hts : ∀ w ∈ wsL_law, w.before args s = true := fun w h => hts0 w (List.mem_cons_of_mem _ h)
  have hown : s.vm.findClass RX6 = some m.cls := findClass_of_methodNamed B.named
  have hlocks := B.notSynchronized
  have hP : va_P D vwCl [(sv, .inr (6, [.ref n, .ref co, .ref sv_keep, .ref sv_scaled])), (co, .inr (0, [.ref n, .ref eq, .ref co_place])), (n, .inr (2, [.int n_nodes, .ref n_kind, .ref n_pay, .ref n_name, .ref n_ways, .ref n_held, .ref n_targets, .ref n_weights])), (n_kind, .inl (g 0, 12, .inl n_fkind)), (n_pay, .inl (g 0, 12, .inl n_fpay)), (n_ways, .inl (g 0, 12, .inl n_fways)), (n_held, .inl (g 0, 12, .inl n_fheld)), (n_targets, .inl (g 0, 36, .inl n_ftargets)), (n_weights, .inl (g 0, 36, .inl n_fweights)), (pl, .inl (g 0, 12, .inl plf))] s.heap := hP
  refine W.eq (g2 := entryFrame m ([.ref sv, .ref pl] : List Value).toArray 8) (by rw [ha]) ?_
  have hl := lv_entry ([.ref sv, .ref pl]) (n := 8) (Nat.le_of_ble_eq_true rfl)
  rw [lg_entry_eq]
  generalize (lg_sl ([.ref sv, .ref pl]) ++ List.replicate (8 - (lg_sl ([.ref sv, .ref pl])).length) Slot.unset).toArray = ls at hl ⊢
  have hl : lv_has ls 8 [(0, .ref sv), (1, .ref pl)] := hl
  refine lv_aload_n hx hb dX6_unavoidable_0 rfl (lv_at hl 0 rfl) ?_
  refine va_get (D := D) (ci := 6) (v := .ref n) (C := RX6) (T := TX6) (N := 4) hx hb hts inlX6 hown hK hP 0 rfl rfl 0 (by decide) (hts (Cond.fieldLink RX6 19 "ChanceRings$Solver" "net" "LChanceRings$Net;") qw_548) (fun _ h9 => h9) rfl dX6_unavoidable_1 ?_
  have hPc := hP.sub (ws' := [(n, .inr (2, [.int n_nodes, .ref n_kind, .ref n_pay, .ref n_name, .ref n_ways, .ref n_held, .ref n_targets, .ref n_weights])), (n_kind, .inl (g 0, 12, .inl n_fkind)), (n_pay, .inl (g 0, 12, .inl n_fpay))]) [2, 3, 4] rfl
  refine vp_callSi (va_Run.run (va_runV (As := []) (rest := []) ⟨hx, hb, hml, hown, hts⟩ (c_X2_payingEnds l D g n n_nodes n_kind n_pay n_name n_ways n_held n_targets n_weights n_fkind n_fpay (tr_w h_n_nodes (by decide) (by decide)) (tr_wa h_n_fkind (by decide) (by decide))) (cwV 0 hts (tz_gV qw_564 qw_505 qw_506 qw_322 qw_507) rfl rfl rfl (by decide +kernel) ⟨Nat.le_of_ble_eq_true rfl, Nat.le_of_ble_eq_true rfl⟩) ⟨tz_blS, va_recv hK hPc (ci := 2) (q0 := 0) rfl rfl, tz_preS hPc hK⟩ rfl rfl hl.1 rfl (lv_room (Nat.le_of_ble_eq_true rfl)) dX6_unavoidable_4 ⟨Nat.le_of_ble_eq_true rfl, Nat.le_of_ble_eq_true rfl⟩)) (fun r_90291 hw => ?_)
  refine lv_istore_n (lv' := [(2, .int r_90291), (0, .ref sv), (1, .ref pl)]) hx hb dX6_unavoidable_7 rfl hl (by decide) rfl (fun ls hl => ?_)
  refine lv_iconst (v := (-1)) hx hb dX6_unavoidable_8 (by decide) ?_
  refine lv_istore_n (lv' := [(3, .int (-1)), (2, .int r_90291), (0, .ref sv), (1, .ref pl)]) hx hb dX6_unavoidable_9 rfl hl (by decide) rfl (fun ls hl => ?_)
  refine lv_iconst (v := 0) hx hb dX6_unavoidable_10 (by decide) ?_
  refine lv_istore (lv' := [(4, .int 0), (3, .int (-1)), (2, .int r_90291), (0, .ref sv), (1, .ref pl)]) hx hb dX6_unavoidable_11 hl (by decide) rfl (fun ls hl => ?_)
  have lp_93325 : ∀ (n_93325 : Nat) (x_93322 : Int32) (x_93323 : Int32) (x_93324 : Int32) (ls : Array Slot), (0 ≤ (x_93322 : Int32).toInt ∧ (x_93322 : Int32).toInt ≤ 12) → (12 - x_93322.toInt < (n_93325 : Int)) → lv_has ls 8 [(4, .int x_93322), (3, .int x_93323), (2, .int x_93324), (0, .ref sv), (1, .ref pl)] → W p l e (headSpec (.code yX6_unavoidable cX6_unavoidable 8 (some .int) :: wsL_law) ({ frames := 2, cells := 0, slots := 0, locals := 47 })).room s m args below meth c s.heap [] 0 0 (MQ below (vp_Si (fun r => True)) args s 0 0 (fun _ => False)) (F0 m 13 ls []) := by
    intro n_93325
    induction n_93325 with
    | zero =>
      intro x_93322 x_93323 x_93324 ls h_x_93322 hm_93325 hl
      exfalso; omega
    | succ n_93325 ih_93325 =>
      intro x_93322 x_93323 x_93324 ls h_x_93322 hm_93325 hl
      refine lv_iload hx hb dX6_unavoidable_13 (lv_at hl 0 rfl) ?_
      refine lv_bipush (v := 12) hx hb dX6_unavoidable_15 (by decide) ?_
      refine lv_icmp_ge (tgt := 157) hx hb dX6_unavoidable_17 (by decide) (fun c_93326 => ?_) (fun c_93326 => ?_)
      · skip
        have c_93326_i := Int32.le_iff_toInt_le.mp c_93326
        have h_93327 : 12 ≤ (x_93322 : Int32).toInt ∧ (x_93322 : Int32).toInt ≤ 12 := by have q1 := h_x_93322; have q2 := (⟨by decide, by decide⟩ : 12 ≤ (12 : Int32).toInt ∧ (12 : Int32).toInt ≤ 12); omega
        refine lv_iload_n hx hb dX6_unavoidable_157 rfl (lv_at hl 2 rfl) ?_
        exact W.iret (v := x_93324) hx hb hr (fun t ht hW => ⟨x_93324, rfl, trivial, ht⟩) (fun _ h => nomatch h) dX6_unavoidable_158
      · skip
        have c_93326_i := Int32.lt_iff_toInt_lt.mp (Int32.not_le.mp c_93326)
        have h_93328 : 0 ≤ (x_93322 : Int32).toInt ∧ (x_93322 : Int32).toInt ≤ 11 := by have q1 := h_x_93322; have q2 := (⟨by decide, by decide⟩ : 12 ≤ (12 : Int32).toInt ∧ (12 : Int32).toInt ≤ 12); omega
        refine lv_iload_n hx hb dX6_unavoidable_20 rfl (lv_at hl 2 rfl) ?_
        refine lv_iload_n hx hb dX6_unavoidable_21 rfl (lv_at hl 1 rfl) ?_
        refine lv_icmp_eq (tgt := 157) hx hb dX6_unavoidable_22 (by decide) (fun c_93329 => ?_) (fun c_93329 => ?_)
        · skip
          refine lv_iload_n hx hb dX6_unavoidable_157 rfl (lv_at hl 2 rfl) ?_
          exact W.iret (v := x_93324) hx hb hr (fun t ht hW => ⟨x_93324, rfl, trivial, ht⟩) (fun _ h => nomatch h) dX6_unavoidable_158
        · skip
          refine lv_iload_n hx hb dX6_unavoidable_25 rfl (lv_at hl 2 rfl) ?_
          refine lv_istore_n (lv' := [(3, .int x_93324), (4, .int x_93322), (2, .int x_93324), (0, .ref sv), (1, .ref pl)]) hx hb dX6_unavoidable_26 rfl hl (by decide) rfl (fun ls hl => ?_)
          refine lv_iconst (v := 0) hx hb dX6_unavoidable_27 (by decide) ?_
          refine lv_istore (lv' := [(5, .int 0), (3, .int x_93324), (4, .int x_93322), (2, .int x_93324), (0, .ref sv), (1, .ref pl)]) hx hb dX6_unavoidable_28 hl (by decide) rfl (fun ls hl => ?_)
          have lp_93664 : ∀ (n_93664 : Nat) (x_93662 : Int32) (x_93663 : Int32) (ls : Array Slot), (0 ≤ (x_93662 : Int32).toInt ∧ (x_93662 : Int32).toInt ≤ 12) → (12 - x_93662.toInt < (n_93664 : Int)) → lv_has ls 8 [(5, .int x_93662), (3, .int x_93324), (4, .int x_93322), (2, .int x_93663), (0, .ref sv), (1, .ref pl)] → W p l e (headSpec (.code yX6_unavoidable cX6_unavoidable 8 (some .int) :: wsL_law) ({ frames := 2, cells := 0, slots := 0, locals := 47 })).room s m args below meth c s.heap [] 0 0 (MQ below (vp_Si (fun r => True)) args s 0 0 (fun _ => False)) (F0 m 30 ls []) := by
            intro n_93664
            induction n_93664 with
            | zero =>
              intro x_93662 x_93663 ls h_x_93662 hm_93664 hl
              exfalso; omega
            | succ n_93664 ih_93664 =>
              intro x_93662 x_93663 ls h_x_93662 hm_93664 hl
              refine lv_iload hx hb dX6_unavoidable_30 (lv_at hl 0 rfl) ?_
              refine lv_aload_n hx hb dX6_unavoidable_32 rfl (lv_at hl 4 rfl) ?_
              refine va_get (D := D) (ci := 6) (v := .ref n) (C := RX6) (T := TX6) (N := 4) hx hb hts inlX6 hown hK hP 0 rfl rfl 0 (by decide) (hts (Cond.fieldLink RX6 19 "ChanceRings$Solver" "net" "LChanceRings$Net;") qw_548) (fun _ h9 => h9) rfl dX6_unavoidable_33 ?_
              refine va_get (D := D) (ci := 2) (v := .int n_nodes) (C := RX2) (T := TX2) (N := 8) hx hb hts inlX2 hown hK hP 2 rfl rfl 0 (by decide) (hts (Cond.fieldLink RX6 32 "ChanceRings$Net" "nodes" "I") qw_549) (fun _ h9 => h9) rfl dX6_unavoidable_36 ?_
              refine lv_icmp_ge (tgt := 151) hx hb dX6_unavoidable_39 (by decide) (fun c_93665 => ?_) (fun c_93665 => ?_)
              · skip
                obtain ⟨v_93668, v_93668_e⟩ : ∃ y : Int32, y = x_93322 + Int32.ofInt 1 := ⟨_, rfl⟩
                have h_v_93668 : 1 ≤ (v_93668 : Int32).toInt ∧ (v_93668 : Int32).toInt ≤ 12 := by rw [v_93668_e]; exact tr_add h_93328 (⟨by decide, by decide⟩ : 1 ≤ (Int32.ofInt 1 : Int32).toInt ∧ (Int32.ofInt 1 : Int32).toInt ≤ 1) (by decide) (by decide) (by decide) (by decide)
                have q_v_93668 : v_93668.toInt = x_93322.toInt + 1 := by rw [v_93668_e]; exact tr_addE h_93328 (⟨by decide, by decide⟩ : 1 ≤ (Int32.ofInt 1 : Int32).toInt ∧ (Int32.ofInt 1 : Int32).toInt ≤ 1) (by decide) (by decide)
                refine lv_iinc (v := v_93668) (lv' := [(4, .int v_93668), (5, .int x_93662), (3, .int x_93324), (2, .int x_93663), (0, .ref sv), (1, .ref pl)]) hx hb dX6_unavoidable_151 hl (k := 2) rfl v_93668_e.symm (by decide) rfl (fun ls hl => ?_)
                refine lv_goto (tgt := 13) hx hb dX6_unavoidable_154 (by decide) ?_
                exact ih_93325 v_93668 x_93324 x_93663 ls (tr_w h_v_93668 (by decide) (by decide)) (by omega) (lv_sub hl [0, 2, 3, 4, 5] rfl)
              · skip
                have c_93665_i := Int32.lt_iff_toInt_lt.mp (Int32.not_le.mp c_93665)
                have h_93666 : 0 ≤ (x_93662 : Int32).toInt ∧ (x_93662 : Int32).toInt ≤ 11 := by have q1 := h_x_93662; have q2 := h_n_nodes; omega
                have h_93667 : 1 ≤ (n_nodes : Int32).toInt ∧ (n_nodes : Int32).toInt ≤ 12 := by have q1 := h_x_93662; have q2 := h_n_nodes; omega
                refine lv_aload_n hx hb dX6_unavoidable_42 rfl (lv_at hl 4 rfl) ?_
                refine va_get (D := D) (ci := 6) (v := .ref n) (C := RX6) (T := TX6) (N := 4) hx hb hts inlX6 hown hK hP 0 rfl rfl 0 (by decide) (hts (Cond.fieldLink RX6 19 "ChanceRings$Solver" "net" "LChanceRings$Net;") qw_548) (fun _ h9 => h9) rfl dX6_unavoidable_43 ?_
                refine va_get (D := D) (ci := 2) (v := .ref n_kind) (C := RX2) (T := TX2) (N := 8) hx hb hts inlX2 hown hK hP 2 rfl rfl 1 (by decide) (hts (Cond.fieldLink RX6 61 "ChanceRings$Net" "kind" "[I") qw_551) (fun _ h9 => h9) rfl dX6_unavoidable_46 ?_
                refine lv_iload hx hb dX6_unavoidable_49 (lv_at hl 0 rfl) ?_
                refine va_iald hx hb hK hP 3 0 rfl rfl (tr_in h_93666 (by decide) (by decide)) dX6_unavoidable_51 ?_
                refine lv_topi (fun v_93669 v_93669_e => ?_)
                have h_v_93669 : 0 ≤ (v_93669 : Int32).toInt ∧ (v_93669 : Int32).toInt ≤ 3 := by rw [v_93669_e]; exact h_n_fkind _
                refine lv_iconst (v := 2) hx hb dX6_unavoidable_52 (by decide) ?_
                refine lv_icmp_ne (tgt := 68) hx hb dX6_unavoidable_53 (by decide) (fun c_93670 => ?_) (fun c_93670 => ?_)
                · skip
                  refine lv_aload_n hx hb dX6_unavoidable_68 rfl (lv_at hl 4 rfl) ?_
                  refine va_get (D := D) (ci := 6) (v := .ref co) (C := RX6) (T := TX6) (N := 4) hx hb hts inlX6 hown hK hP 0 rfl rfl 1 (by decide) (hts (Cond.fieldLink RX6 28 "ChanceRings$Solver" "course" "LChanceRings$Course;") qw_565) (fun _ h9 => h9) rfl dX6_unavoidable_69 ?_
                  refine lv_aload_n hx hb dX6_unavoidable_72 rfl (lv_at hl 5 rfl) ?_
                  refine lv_iload hx hb dX6_unavoidable_73 (lv_at hl 0 rfl) ?_
                  have hPc := hP.sub (ws' := [(co, .inr (0, [.ref n, .ref eq, .ref co_place])), (n, .inr (2, [.int n_nodes, .ref n_kind, .ref n_pay, .ref n_name, .ref n_ways, .ref n_held, .ref n_targets, .ref n_weights])), (n_kind, .inl (g 0, 12, .inl n_fkind)), (n_ways, .inl (g 0, 12, .inl n_fways)), (n_targets, .inl (g 0, 36, .inl n_ftargets)), (n_weights, .inl (g 0, 36, .inl n_fweights)), (pl, .inl (g 0, 12, .inl plf))]) [1, 2, 3, 5, 7, 8, 9] rfl
                  refine vp_callSi (va_Run.run (va_runV (As := [.ref pl, .int x_93662]) (rest := []) ⟨hx, hb, hml, hown, hts⟩ (c_X0_follow l D g co pl x_93662 n eq co_place n_nodes n_kind n_pay n_name n_ways n_held n_targets n_weights n_fkind n_fways n_ftargets n_fweights plf (tr_w h_93666 (by decide) (by decide)) (tr_w h_93667 (by decide) (by decide)) (tr_wa h_n_fkind (by decide) (by decide)) (tr_wa h_n_fways (by decide) (by decide)) (tr_wa h_n_ftargets (by decide) (by decide)) (tr_wa h_plf (by decide) (by decide))) (cwV 2 hts (tz_gV qw_566 qw_567 qw_568 qw_490 qw_569) rfl rfl rfl (by decide +kernel) ⟨Nat.le_of_ble_eq_true rfl, Nat.le_of_ble_eq_true rfl⟩) ⟨tz_blS, va_recv hK hPc (ci := 0) (q0 := 0) rfl rfl, tz_preS hPc hK⟩ rfl rfl hl.1 rfl (lv_room (Nat.le_of_ble_eq_true rfl)) dX6_unavoidable_75 ⟨Nat.le_of_ble_eq_true rfl, Nat.le_of_ble_eq_true rfl⟩)) (fun r_93672 hw => ?_)
                  refine lv_istore (lv' := [(6, .int r_93672), (5, .int x_93662), (3, .int x_93324), (4, .int x_93322), (2, .int x_93663), (0, .ref sv), (1, .ref pl)]) hx hb dX6_unavoidable_78 hl (by decide) rfl (fun ls hl => ?_)
                  refine lv_aload_n hx hb dX6_unavoidable_80 rfl (lv_at hl 5 rfl) ?_
                  refine va_get (D := D) (ci := 6) (v := .ref n) (C := RX6) (T := TX6) (N := 4) hx hb hts inlX6 hown hK hP 0 rfl rfl 0 (by decide) (hts (Cond.fieldLink RX6 19 "ChanceRings$Solver" "net" "LChanceRings$Net;") qw_548) (fun _ h9 => h9) rfl dX6_unavoidable_81 ?_
                  refine va_get (D := D) (ci := 2) (v := .ref n_kind) (C := RX2) (T := TX2) (N := 8) hx hb hts inlX2 hown hK hP 2 rfl rfl 1 (by decide) (hts (Cond.fieldLink RX6 61 "ChanceRings$Net" "kind" "[I") qw_551) (fun _ h9 => h9) rfl dX6_unavoidable_84 ?_
                  refine lv_iload hx hb dX6_unavoidable_87 (lv_at hl 1 rfl) ?_
                  refine va_iald hx hb hK hP 3 0 rfl rfl (tr_in h_93666 (by decide) (by decide)) dX6_unavoidable_89 ?_
                  refine tz_i (y := v_93669) v_93669_e.symm ?_
                  refine lv_iconst (v := 2) hx hb dX6_unavoidable_90 (by decide) ?_
                  refine lv_icmp_ne (tgt := 98) hx hb dX6_unavoidable_91 (by decide) (fun c_93673 => ?_) (fun c_93673 => ?_)
                  · skip
                    refine lv_iconst (v := 0) hx hb dX6_unavoidable_98 (by decide) ?_
                    refine lv_istore (lv' := [(7, .int 0), (6, .int r_93672), (5, .int x_93662), (3, .int x_93324), (4, .int x_93322), (2, .int x_93663), (0, .ref sv), (1, .ref pl)]) hx hb dX6_unavoidable_99 hl (by decide) rfl (fun ls hl => ?_)
                    refine lv_aload_n hx hb dX6_unavoidable_101 rfl (lv_at hl 6 rfl) ?_
                    refine va_get (D := D) (ci := 6) (v := .ref n) (C := RX6) (T := TX6) (N := 4) hx hb hts inlX6 hown hK hP 0 rfl rfl 0 (by decide) (hts (Cond.fieldLink RX6 19 "ChanceRings$Solver" "net" "LChanceRings$Net;") qw_548) (fun _ h9 => h9) rfl dX6_unavoidable_102 ?_
                    refine va_get (D := D) (ci := 2) (v := .ref n_kind) (C := RX2) (T := TX2) (N := 8) hx hb hts inlX2 hown hK hP 2 rfl rfl 1 (by decide) (hts (Cond.fieldLink RX6 61 "ChanceRings$Net" "kind" "[I") qw_551) (fun _ h9 => h9) rfl dX6_unavoidable_105 ?_
                    refine lv_iload hx hb dX6_unavoidable_108 (lv_at hl 2 rfl) ?_
                    refine va_iald hx hb hK hP 3 0 rfl rfl (tr_in h_93666 (by decide) (by decide)) dX6_unavoidable_110 ?_
                    refine tz_i (y := v_93669) v_93669_e.symm ?_
                    refine lv_if_eq (tgt := 145) hx hb dX6_unavoidable_111 (by decide) (fun c_93675 => ?_) (fun c_93675 => ?_)
                    · skip
                      have c_93675_i := c_93675
                      have c_93675_i : (v_93669 : Int32).toInt = (0 : Int32).toInt := congrArg Int32.toInt c_93675
                      have h_93676 : 0 ≤ (v_93669 : Int32).toInt ∧ (v_93669 : Int32).toInt ≤ 0 := by have q1 := h_v_93669; have q2 := (⟨by decide, by decide⟩ : 0 ≤ (0 : Int32).toInt ∧ (0 : Int32).toInt ≤ 0); omega
                      obtain ⟨v_93678, v_93678_e⟩ : ∃ y : Int32, y = x_93662 + Int32.ofInt 1 := ⟨_, rfl⟩
                      have h_v_93678 : 1 ≤ (v_93678 : Int32).toInt ∧ (v_93678 : Int32).toInt ≤ 12 := by rw [v_93678_e]; exact tr_add h_93666 (⟨by decide, by decide⟩ : 1 ≤ (Int32.ofInt 1 : Int32).toInt ∧ (Int32.ofInt 1 : Int32).toInt ≤ 1) (by decide) (by decide) (by decide) (by decide)
                      have q_v_93678 : v_93678.toInt = x_93662.toInt + 1 := by rw [v_93678_e]; exact tr_addE h_93666 (⟨by decide, by decide⟩ : 1 ≤ (Int32.ofInt 1 : Int32).toInt ∧ (Int32.ofInt 1 : Int32).toInt ≤ 1) (by decide) (by decide)
                      refine lv_iinc (v := v_93678) (lv' := [(5, .int v_93678), (7, .int 0), (6, .int r_93672), (3, .int x_93324), (4, .int x_93322), (2, .int x_93663), (0, .ref sv), (1, .ref pl)]) hx hb dX6_unavoidable_145 hl (k := 2) rfl v_93678_e.symm (by decide) rfl (fun ls hl => ?_)
                      refine lv_goto (tgt := 30) hx hb dX6_unavoidable_148 (by decide) ?_
                      exact ih_93664 v_93678 x_93663 ls (tr_w h_v_93678 (by decide) (by decide)) (by omega) (lv_sub hl [0, 3, 4, 5, 6, 7] rfl)
                    · skip
                      have c_93675_i := c_93675
                      have c_93675_i : ¬ (v_93669 : Int32).toInt = (0 : Int32).toInt := (fun q => c_93675 (Int32.toInt_inj.mp q))
                      have h_93677 : 1 ≤ (v_93669 : Int32).toInt ∧ (v_93669 : Int32).toInt ≤ 3 := by have q1 := h_v_93669; have q2 := (⟨by decide, by decide⟩ : 0 ≤ (0 : Int32).toInt ∧ (0 : Int32).toInt ≤ 0); omega
                      refine lv_iload hx hb dX6_unavoidable_114 (lv_at hl 0 rfl) ?_
                      refine lv_if_eq (tgt := 131) hx hb dX6_unavoidable_116 (by decide) (fun _ => ?_) (fun h9 => (h9 (by decide)).elim)
                      refine lv_iload hx hb dX6_unavoidable_131 (lv_at hl 1 rfl) ?_
                      refine lv_iload_n hx hb dX6_unavoidable_133 rfl (lv_at hl 5 rfl) ?_
                      refine lv_iand hx hb dX6_unavoidable_134 ?_
                      refine lv_topi (fun v_93679 v_93679_e => ?_)
                      refine lv_if_eq (tgt := 145) hx hb dX6_unavoidable_135 (by decide) (fun c_93680 => ?_) (fun c_93680 => ?_)
                      · skip
                        have h_93681 : 0 ≤ (v_93679 : Int32).toInt ∧ (v_93679 : Int32).toInt ≤ 0 := by rw [c_93680]; exact ⟨by decide, by decide⟩
                        obtain ⟨v_93682, v_93682_e⟩ : ∃ y : Int32, y = x_93662 + Int32.ofInt 1 := ⟨_, rfl⟩
                        have h_v_93682 : 1 ≤ (v_93682 : Int32).toInt ∧ (v_93682 : Int32).toInt ≤ 12 := by rw [v_93682_e]; exact tr_add h_93666 (⟨by decide, by decide⟩ : 1 ≤ (Int32.ofInt 1 : Int32).toInt ∧ (Int32.ofInt 1 : Int32).toInt ≤ 1) (by decide) (by decide) (by decide) (by decide)
                        have q_v_93682 : v_93682.toInt = x_93662.toInt + 1 := by rw [v_93682_e]; exact tr_addE h_93666 (⟨by decide, by decide⟩ : 1 ≤ (Int32.ofInt 1 : Int32).toInt ∧ (Int32.ofInt 1 : Int32).toInt ≤ 1) (by decide) (by decide)
                        refine lv_iinc (v := v_93682) (lv' := [(5, .int v_93682), (7, .int 0), (6, .int r_93672), (3, .int x_93324), (4, .int x_93322), (2, .int x_93663), (0, .ref sv), (1, .ref pl)]) hx hb dX6_unavoidable_145 hl (k := 2) rfl v_93682_e.symm (by decide) rfl (fun ls hl => ?_)
                        refine lv_goto (tgt := 30) hx hb dX6_unavoidable_148 (by decide) ?_
                        exact ih_93664 v_93682 x_93663 ls (tr_w h_v_93682 (by decide) (by decide)) (by omega) (lv_sub hl [0, 3, 4, 5, 6, 7] rfl)
                      · skip
                        refine lv_iload_n hx hb dX6_unavoidable_138 rfl (lv_at hl 5 rfl) ?_
                        refine lv_iconst (v := 1) hx hb dX6_unavoidable_139 (by decide) ?_
                        refine lv_iload hx hb dX6_unavoidable_140 (lv_at hl 2 rfl) ?_
                        refine lv_ishl hx hb dX6_unavoidable_142 ?_
                        refine lv_topi (fun v_93683 v_93683_e => ?_)
                        refine lv_ior hx hb dX6_unavoidable_143 ?_
                        refine lv_topi (fun v_93684 v_93684_e => ?_)
                        refine lv_istore_n (lv' := [(2, .int v_93684), (7, .int 0), (6, .int r_93672), (5, .int x_93662), (3, .int x_93324), (4, .int x_93322), (0, .ref sv), (1, .ref pl)]) hx hb dX6_unavoidable_144 rfl hl (by decide) rfl (fun ls hl => ?_)
                        obtain ⟨v_93685, v_93685_e⟩ : ∃ y : Int32, y = x_93662 + Int32.ofInt 1 := ⟨_, rfl⟩
                        have h_v_93685 : 1 ≤ (v_93685 : Int32).toInt ∧ (v_93685 : Int32).toInt ≤ 12 := by rw [v_93685_e]; exact tr_add h_93666 (⟨by decide, by decide⟩ : 1 ≤ (Int32.ofInt 1 : Int32).toInt ∧ (Int32.ofInt 1 : Int32).toInt ≤ 1) (by decide) (by decide) (by decide) (by decide)
                        have q_v_93685 : v_93685.toInt = x_93662.toInt + 1 := by rw [v_93685_e]; exact tr_addE h_93666 (⟨by decide, by decide⟩ : 1 ≤ (Int32.ofInt 1 : Int32).toInt ∧ (Int32.ofInt 1 : Int32).toInt ≤ 1) (by decide) (by decide)
                        refine lv_iinc (v := v_93685) (lv' := [(5, .int v_93685), (2, .int v_93684), (7, .int 0), (6, .int r_93672), (3, .int x_93324), (4, .int x_93322), (0, .ref sv), (1, .ref pl)]) hx hb dX6_unavoidable_145 hl (k := 3) rfl v_93685_e.symm (by decide) rfl (fun ls hl => ?_)
                        refine lv_goto (tgt := 30) hx hb dX6_unavoidable_148 (by decide) ?_
                        exact ih_93664 v_93685 v_93684 ls (tr_w h_v_93685 (by decide) (by decide)) (by omega) (lv_sub hl [0, 4, 5, 1, 6, 7] rfl)
                  · skip
                    have c_93673_i := c_93673
                    have c_93673_i : (v_93669 : Int32).toInt = (2 : Int32).toInt := congrArg Int32.toInt c_93673
                    have h_93674 : 2 ≤ (v_93669 : Int32).toInt ∧ (v_93669 : Int32).toInt ≤ 2 := by have q1 := h_v_93669; have q2 := (⟨by decide, by decide⟩ : 2 ≤ (2 : Int32).toInt ∧ (2 : Int32).toInt ≤ 2); omega
                    refine lv_iconst (v := 1) hx hb dX6_unavoidable_94 (by decide) ?_
                    refine lv_goto (tgt := 99) hx hb dX6_unavoidable_95 (by decide) ?_
                    refine lv_istore (lv' := [(7, .int 1), (6, .int r_93672), (5, .int x_93662), (3, .int x_93324), (4, .int x_93322), (2, .int x_93663), (0, .ref sv), (1, .ref pl)]) hx hb dX6_unavoidable_99 hl (by decide) rfl (fun ls hl => ?_)
                    refine lv_aload_n hx hb dX6_unavoidable_101 rfl (lv_at hl 6 rfl) ?_
                    refine va_get (D := D) (ci := 6) (v := .ref n) (C := RX6) (T := TX6) (N := 4) hx hb hts inlX6 hown hK hP 0 rfl rfl 0 (by decide) (hts (Cond.fieldLink RX6 19 "ChanceRings$Solver" "net" "LChanceRings$Net;") qw_548) (fun _ h9 => h9) rfl dX6_unavoidable_102 ?_
                    refine va_get (D := D) (ci := 2) (v := .ref n_kind) (C := RX2) (T := TX2) (N := 8) hx hb hts inlX2 hown hK hP 2 rfl rfl 1 (by decide) (hts (Cond.fieldLink RX6 61 "ChanceRings$Net" "kind" "[I") qw_551) (fun _ h9 => h9) rfl dX6_unavoidable_105 ?_
                    refine lv_iload hx hb dX6_unavoidable_108 (lv_at hl 2 rfl) ?_
                    refine va_iald hx hb hK hP 3 0 rfl rfl (tr_in h_93666 (by decide) (by decide)) dX6_unavoidable_110 ?_
                    refine tz_i (y := v_93669) v_93669_e.symm ?_
                    refine lv_if_eq (tgt := 145) hx hb dX6_unavoidable_111 (by decide) (fun h9 => by exfalso; have q1 := h_93674; have q2 := (⟨by decide, by decide⟩ : 0 ≤ (0 : Int32).toInt ∧ (0 : Int32).toInt ≤ 0); have h8 : (v_93669 : Int32).toInt = (0 : Int32).toInt := congrArg Int32.toInt h9; omega) (fun c_93686 => ?_)
                    refine lv_iload hx hb dX6_unavoidable_114 (lv_at hl 0 rfl) ?_
                    refine lv_if_eq (tgt := 131) hx hb dX6_unavoidable_116 (by decide) (fun h9 => absurd h9 (by decide)) (fun _ => ?_)
                    refine lv_iload hx hb dX6_unavoidable_119 (lv_at hl 1 rfl) ?_
                    refine lv_iload_n hx hb dX6_unavoidable_121 rfl (lv_at hl 5 rfl) ?_
                    refine lv_iconst (v := (-1)) hx hb dX6_unavoidable_122 (by decide) ?_
                    refine lv_ixor hx hb dX6_unavoidable_123 ?_
                    refine lv_topi (fun v_93687 v_93687_e => ?_)
                    refine lv_iand hx hb dX6_unavoidable_124 ?_
                    refine lv_topi (fun v_93688 v_93688_e => ?_)
                    refine lv_if_ne (tgt := 145) hx hb dX6_unavoidable_125 (by decide) (fun c_93689 => ?_) (fun c_93689 => ?_)
                    · skip
                      obtain ⟨v_93691, v_93691_e⟩ : ∃ y : Int32, y = x_93662 + Int32.ofInt 1 := ⟨_, rfl⟩
                      have h_v_93691 : 1 ≤ (v_93691 : Int32).toInt ∧ (v_93691 : Int32).toInt ≤ 12 := by rw [v_93691_e]; exact tr_add h_93666 (⟨by decide, by decide⟩ : 1 ≤ (Int32.ofInt 1 : Int32).toInt ∧ (Int32.ofInt 1 : Int32).toInt ≤ 1) (by decide) (by decide) (by decide) (by decide)
                      have q_v_93691 : v_93691.toInt = x_93662.toInt + 1 := by rw [v_93691_e]; exact tr_addE h_93666 (⟨by decide, by decide⟩ : 1 ≤ (Int32.ofInt 1 : Int32).toInt ∧ (Int32.ofInt 1 : Int32).toInt ≤ 1) (by decide) (by decide)
                      refine lv_iinc (v := v_93691) (lv' := [(5, .int v_93691), (7, .int 1), (6, .int r_93672), (3, .int x_93324), (4, .int x_93322), (2, .int x_93663), (0, .ref sv), (1, .ref pl)]) hx hb dX6_unavoidable_145 hl (k := 2) rfl v_93691_e.symm (by decide) rfl (fun ls hl => ?_)
                      refine lv_goto (tgt := 30) hx hb dX6_unavoidable_148 (by decide) ?_
                      exact ih_93664 v_93691 x_93663 ls (tr_w h_v_93691 (by decide) (by decide)) (by omega) (lv_sub hl [0, 3, 4, 5, 6, 7] rfl)
                    · skip
                      have h_93690 : 0 ≤ (v_93688 : Int32).toInt ∧ (v_93688 : Int32).toInt ≤ 0 := by rw [c_93689]; exact ⟨by decide, by decide⟩
                      refine lv_goto (tgt := 138) hx hb dX6_unavoidable_128 (by decide) ?_
                      refine lv_iload_n hx hb dX6_unavoidable_138 rfl (lv_at hl 5 rfl) ?_
                      refine lv_iconst (v := 1) hx hb dX6_unavoidable_139 (by decide) ?_
                      refine lv_iload hx hb dX6_unavoidable_140 (lv_at hl 2 rfl) ?_
                      refine lv_ishl hx hb dX6_unavoidable_142 ?_
                      refine lv_topi (fun v_93692 v_93692_e => ?_)
                      refine lv_ior hx hb dX6_unavoidable_143 ?_
                      refine lv_topi (fun v_93693 v_93693_e => ?_)
                      refine lv_istore_n (lv' := [(2, .int v_93693), (7, .int 1), (6, .int r_93672), (5, .int x_93662), (3, .int x_93324), (4, .int x_93322), (0, .ref sv), (1, .ref pl)]) hx hb dX6_unavoidable_144 rfl hl (by decide) rfl (fun ls hl => ?_)
                      obtain ⟨v_93694, v_93694_e⟩ : ∃ y : Int32, y = x_93662 + Int32.ofInt 1 := ⟨_, rfl⟩
                      have h_v_93694 : 1 ≤ (v_93694 : Int32).toInt ∧ (v_93694 : Int32).toInt ≤ 12 := by rw [v_93694_e]; exact tr_add h_93666 (⟨by decide, by decide⟩ : 1 ≤ (Int32.ofInt 1 : Int32).toInt ∧ (Int32.ofInt 1 : Int32).toInt ≤ 1) (by decide) (by decide) (by decide) (by decide)
                      have q_v_93694 : v_93694.toInt = x_93662.toInt + 1 := by rw [v_93694_e]; exact tr_addE h_93666 (⟨by decide, by decide⟩ : 1 ≤ (Int32.ofInt 1 : Int32).toInt ∧ (Int32.ofInt 1 : Int32).toInt ≤ 1) (by decide) (by decide)
                      refine lv_iinc (v := v_93694) (lv' := [(5, .int v_93694), (2, .int v_93693), (7, .int 1), (6, .int r_93672), (3, .int x_93324), (4, .int x_93322), (0, .ref sv), (1, .ref pl)]) hx hb dX6_unavoidable_145 hl (k := 3) rfl v_93694_e.symm (by decide) rfl (fun ls hl => ?_)
                      refine lv_goto (tgt := 30) hx hb dX6_unavoidable_148 (by decide) ?_
                      exact ih_93664 v_93694 v_93693 ls (tr_w h_v_93694 (by decide) (by decide)) (by omega) (lv_sub hl [0, 4, 5, 1, 6, 7] rfl)
                · skip
                  have c_93670_i := c_93670
                  have c_93670_i : (v_93669 : Int32).toInt = (2 : Int32).toInt := congrArg Int32.toInt c_93670
                  have h_93671 : 2 ≤ (v_93669 : Int32).toInt ∧ (v_93669 : Int32).toInt ≤ 2 := by have q1 := h_v_93669; have q2 := (⟨by decide, by decide⟩ : 2 ≤ (2 : Int32).toInt ∧ (2 : Int32).toInt ≤ 2); omega
                  refine lv_aload_n hx hb dX6_unavoidable_56 rfl (lv_at hl 4 rfl) ?_
                  refine va_get (D := D) (ci := 6) (v := .ref n) (C := RX6) (T := TX6) (N := 4) hx hb hts inlX6 hown hK hP 0 rfl rfl 0 (by decide) (hts (Cond.fieldLink RX6 19 "ChanceRings$Solver" "net" "LChanceRings$Net;") qw_548) (fun _ h9 => h9) rfl dX6_unavoidable_57 ?_
                  refine lv_iload hx hb dX6_unavoidable_60 (lv_at hl 0 rfl) ?_
                  have hPc := hP.sub (ws' := [(n, .inr (2, [.int n_nodes, .ref n_kind, .ref n_pay, .ref n_name, .ref n_ways, .ref n_held, .ref n_targets, .ref n_weights])), (n_ways, .inl (g 0, 12, .inl n_fways)), (n_held, .inl (g 0, 12, .inl n_fheld)), (n_targets, .inl (g 0, 36, .inl n_ftargets))]) [2, 5, 6, 7] rfl
                  refine vp_callSi (va_Run.run (va_runV (As := [.int x_93662]) (rest := []) ⟨hx, hb, hml, hown, hts⟩ (c_X2_nextNodes l D g n x_93662 n_nodes n_kind n_pay n_name n_ways n_held n_targets n_weights n_fways n_fheld n_ftargets (tr_w h_93666 (by decide) (by decide)) (tr_w h_93667 (by decide) (by decide)) (tr_wa h_n_fways (by decide) (by decide)) (tr_wa h_n_fheld (by decide) (by decide)) (tr_wa h_n_ftargets (by decide) (by decide))) (cwV 1 hts (tz_gV qw_570 qw_479 qw_480 qw_322 qw_481) rfl rfl rfl (by decide +kernel) ⟨Nat.le_of_ble_eq_true rfl, Nat.le_of_ble_eq_true rfl⟩) ⟨tz_blS, va_recv hK hPc (ci := 2) (q0 := 0) rfl rfl, tz_preS hPc hK⟩ rfl rfl hl.1 rfl (lv_room (Nat.le_of_ble_eq_true rfl)) dX6_unavoidable_62 ⟨Nat.le_of_ble_eq_true rfl, Nat.le_of_ble_eq_true rfl⟩)) (fun r_93695 hw => ?_)
                  refine lv_goto (tgt := 78) hx hb dX6_unavoidable_65 (by decide) ?_
                  refine lv_istore (lv' := [(6, .int r_93695), (5, .int x_93662), (3, .int x_93324), (4, .int x_93322), (2, .int x_93663), (0, .ref sv), (1, .ref pl)]) hx hb dX6_unavoidable_78 hl (by decide) rfl (fun ls hl => ?_)
                  refine lv_aload_n hx hb dX6_unavoidable_80 rfl (lv_at hl 5 rfl) ?_
                  refine va_get (D := D) (ci := 6) (v := .ref n) (C := RX6) (T := TX6) (N := 4) hx hb hts inlX6 hown hK hP 0 rfl rfl 0 (by decide) (hts (Cond.fieldLink RX6 19 "ChanceRings$Solver" "net" "LChanceRings$Net;") qw_548) (fun _ h9 => h9) rfl dX6_unavoidable_81 ?_
                  refine va_get (D := D) (ci := 2) (v := .ref n_kind) (C := RX2) (T := TX2) (N := 8) hx hb hts inlX2 hown hK hP 2 rfl rfl 1 (by decide) (hts (Cond.fieldLink RX6 61 "ChanceRings$Net" "kind" "[I") qw_551) (fun _ h9 => h9) rfl dX6_unavoidable_84 ?_
                  refine lv_iload hx hb dX6_unavoidable_87 (lv_at hl 1 rfl) ?_
                  refine va_iald hx hb hK hP 3 0 rfl rfl (tr_in h_93666 (by decide) (by decide)) dX6_unavoidable_89 ?_
                  refine tz_i (y := v_93669) v_93669_e.symm ?_
                  refine lv_iconst (v := 2) hx hb dX6_unavoidable_90 (by decide) ?_
                  refine lv_icmp_ne (tgt := 98) hx hb dX6_unavoidable_91 (by decide) (fun h9 => by exfalso; have q1 := h_93671; have q2 := (⟨by decide, by decide⟩ : 2 ≤ (2 : Int32).toInt ∧ (2 : Int32).toInt ≤ 2); have h8 : ¬ (v_93669 : Int32).toInt = (2 : Int32).toInt := fun q => h9 (Int32.toInt_inj.mp q); omega) (fun c_93696 => ?_)
                  refine lv_iconst (v := 1) hx hb dX6_unavoidable_94 (by decide) ?_
                  refine lv_goto (tgt := 99) hx hb dX6_unavoidable_95 (by decide) ?_
                  refine lv_istore (lv' := [(7, .int 1), (6, .int r_93695), (5, .int x_93662), (3, .int x_93324), (4, .int x_93322), (2, .int x_93663), (0, .ref sv), (1, .ref pl)]) hx hb dX6_unavoidable_99 hl (by decide) rfl (fun ls hl => ?_)
                  refine lv_aload_n hx hb dX6_unavoidable_101 rfl (lv_at hl 6 rfl) ?_
                  refine va_get (D := D) (ci := 6) (v := .ref n) (C := RX6) (T := TX6) (N := 4) hx hb hts inlX6 hown hK hP 0 rfl rfl 0 (by decide) (hts (Cond.fieldLink RX6 19 "ChanceRings$Solver" "net" "LChanceRings$Net;") qw_548) (fun _ h9 => h9) rfl dX6_unavoidable_102 ?_
                  refine va_get (D := D) (ci := 2) (v := .ref n_kind) (C := RX2) (T := TX2) (N := 8) hx hb hts inlX2 hown hK hP 2 rfl rfl 1 (by decide) (hts (Cond.fieldLink RX6 61 "ChanceRings$Net" "kind" "[I") qw_551) (fun _ h9 => h9) rfl dX6_unavoidable_105 ?_
                  refine lv_iload hx hb dX6_unavoidable_108 (lv_at hl 2 rfl) ?_
                  refine va_iald hx hb hK hP 3 0 rfl rfl (tr_in h_93666 (by decide) (by decide)) dX6_unavoidable_110 ?_
                  refine tz_i (y := v_93669) v_93669_e.symm ?_
                  refine lv_if_eq (tgt := 145) hx hb dX6_unavoidable_111 (by decide) (fun h9 => by exfalso; have q1 := h_93671; have q2 := (⟨by decide, by decide⟩ : 0 ≤ (0 : Int32).toInt ∧ (0 : Int32).toInt ≤ 0); have h8 : (v_93669 : Int32).toInt = (0 : Int32).toInt := congrArg Int32.toInt h9; omega) (fun c_93697 => ?_)
                  refine lv_iload hx hb dX6_unavoidable_114 (lv_at hl 0 rfl) ?_
                  refine lv_if_eq (tgt := 131) hx hb dX6_unavoidable_116 (by decide) (fun h9 => absurd h9 (by decide)) (fun _ => ?_)
                  refine lv_iload hx hb dX6_unavoidable_119 (lv_at hl 1 rfl) ?_
                  refine lv_iload_n hx hb dX6_unavoidable_121 rfl (lv_at hl 5 rfl) ?_
                  refine lv_iconst (v := (-1)) hx hb dX6_unavoidable_122 (by decide) ?_
                  refine lv_ixor hx hb dX6_unavoidable_123 ?_
                  refine lv_topi (fun v_93698 v_93698_e => ?_)
                  refine lv_iand hx hb dX6_unavoidable_124 ?_
                  refine lv_topi (fun v_93699 v_93699_e => ?_)
                  refine lv_if_ne (tgt := 145) hx hb dX6_unavoidable_125 (by decide) (fun c_93700 => ?_) (fun c_93700 => ?_)
                  · skip
                    obtain ⟨v_93702, v_93702_e⟩ : ∃ y : Int32, y = x_93662 + Int32.ofInt 1 := ⟨_, rfl⟩
                    have h_v_93702 : 1 ≤ (v_93702 : Int32).toInt ∧ (v_93702 : Int32).toInt ≤ 12 := by rw [v_93702_e]; exact tr_add h_93666 (⟨by decide, by decide⟩ : 1 ≤ (Int32.ofInt 1 : Int32).toInt ∧ (Int32.ofInt 1 : Int32).toInt ≤ 1) (by decide) (by decide) (by decide) (by decide)
                    have q_v_93702 : v_93702.toInt = x_93662.toInt + 1 := by rw [v_93702_e]; exact tr_addE h_93666 (⟨by decide, by decide⟩ : 1 ≤ (Int32.ofInt 1 : Int32).toInt ∧ (Int32.ofInt 1 : Int32).toInt ≤ 1) (by decide) (by decide)
                    refine lv_iinc (v := v_93702) (lv' := [(5, .int v_93702), (7, .int 1), (6, .int r_93695), (3, .int x_93324), (4, .int x_93322), (2, .int x_93663), (0, .ref sv), (1, .ref pl)]) hx hb dX6_unavoidable_145 hl (k := 2) rfl v_93702_e.symm (by decide) rfl (fun ls hl => ?_)
                    refine lv_goto (tgt := 30) hx hb dX6_unavoidable_148 (by decide) ?_
                    exact ih_93664 v_93702 x_93663 ls (tr_w h_v_93702 (by decide) (by decide)) (by omega) (lv_sub hl [0, 3, 4, 5, 6, 7] rfl)
                  · skip
                    have h_93701 : 0 ≤ (v_93699 : Int32).toInt ∧ (v_93699 : Int32).toInt ≤ 0 := by rw [c_93700]; exact ⟨by decide, by decide⟩
                    refine lv_goto (tgt := 138) hx hb dX6_unavoidable_128 (by decide) ?_
                    refine lv_iload_n hx hb dX6_unavoidable_138 rfl (lv_at hl 5 rfl) ?_
                    refine lv_iconst (v := 1) hx hb dX6_unavoidable_139 (by decide) ?_
                    refine lv_iload hx hb dX6_unavoidable_140 (lv_at hl 2 rfl) ?_
                    refine lv_ishl hx hb dX6_unavoidable_142 ?_
                    refine lv_topi (fun v_93703 v_93703_e => ?_)
                    refine lv_ior hx hb dX6_unavoidable_143 ?_
                    refine lv_topi (fun v_93704 v_93704_e => ?_)
                    refine lv_istore_n (lv' := [(2, .int v_93704), (7, .int 1), (6, .int r_93695), (5, .int x_93662), (3, .int x_93324), (4, .int x_93322), (0, .ref sv), (1, .ref pl)]) hx hb dX6_unavoidable_144 rfl hl (by decide) rfl (fun ls hl => ?_)
                    obtain ⟨v_93705, v_93705_e⟩ : ∃ y : Int32, y = x_93662 + Int32.ofInt 1 := ⟨_, rfl⟩
                    have h_v_93705 : 1 ≤ (v_93705 : Int32).toInt ∧ (v_93705 : Int32).toInt ≤ 12 := by rw [v_93705_e]; exact tr_add h_93666 (⟨by decide, by decide⟩ : 1 ≤ (Int32.ofInt 1 : Int32).toInt ∧ (Int32.ofInt 1 : Int32).toInt ≤ 1) (by decide) (by decide) (by decide) (by decide)
                    have q_v_93705 : v_93705.toInt = x_93662.toInt + 1 := by rw [v_93705_e]; exact tr_addE h_93666 (⟨by decide, by decide⟩ : 1 ≤ (Int32.ofInt 1 : Int32).toInt ∧ (Int32.ofInt 1 : Int32).toInt ≤ 1) (by decide) (by decide)
                    refine lv_iinc (v := v_93705) (lv' := [(5, .int v_93705), (2, .int v_93704), (7, .int 1), (6, .int r_93695), (3, .int x_93324), (4, .int x_93322), (0, .ref sv), (1, .ref pl)]) hx hb dX6_unavoidable_145 hl (k := 3) rfl v_93705_e.symm (by decide) rfl (fun ls hl => ?_)
                    refine lv_goto (tgt := 30) hx hb dX6_unavoidable_148 (by decide) ?_
                    exact ih_93664 v_93705 v_93704 ls (tr_w h_v_93705 (by decide) (by decide)) (by omega) (lv_sub hl [0, 4, 5, 1, 6, 7] rfl)
          exact lp_93664 13 0 x_93324 ls (⟨by decide, by decide⟩ : 0 ≤ (0 : Int32).toInt ∧ (0 : Int32).toInt ≤ 12) (by decide) (lv_sub hl [0, 1, 2, 3, 4, 5] rfl)
  exact lp_93325 13 0 (-1) r_90291 ls (⟨by decide, by decide⟩ : 0 ≤ (0 : Int32).toInt ∧ (0 : Int32).toInt ≤ 12) (by decide) (lv_sub hl [0, 1, 2, 3, 4] rfl)
set_option maxHeartbeats 4000000 in
set_option maxRecDepth 100000 in
theorem c_X6_findLeft (l : Launch) (D : va_G) (g : Nat → ClassId) (sz : Nat) (sv : Nat) (pl : Nat) (p0 : Int32) (p1 : Int32) (vs : Nat) (n : Nat) (co : Nat) (sv_keep : Nat) (sv_scaled : Nat) (eq : Nat) (co_place : Nat) (n_nodes : Int32) (n_kind : Nat) (n_pay : Nat) (n_name : Nat) (n_ways : Nat) (n_held : Nat) (n_targets : Nat) (n_weights : Nat) (n_fkind : Nat → Int32) (n_fpay : Nat → Int32) (n_fways : Nat → Int32) (n_fheld : Nat → Int32) (n_ftargets : Nat → Int32) (n_fweights : Nat → Int32) (pcf : Nat → Int32) (eq_rows : Nat) (eq_right : Nat) (ew : Int64) (fr : Nat → Int64) (rr : Nat → Nat) (ct : Nat → Nat → Int64) (plf : Nat → Int32) (vs_part : Nat) (vsw : Int64) (vsp : Nat → Int64) (h_n_nodes : 0 ≤ (n_nodes : Int32).toInt ∧ (n_nodes : Int32).toInt ≤ 12) (h_n_fkind : ∀ j : Nat, 0 ≤ (n_fkind j).toInt ∧ (n_fkind j).toInt ≤ 3) (h_n_fways : ∀ j : Nat, 0 ≤ (n_fways j).toInt ∧ (n_fways j).toInt ≤ 3) (h_n_fheld : ∀ j : Nat, (-1) ≤ (n_fheld j).toInt ∧ (n_fheld j).toInt ≤ 2) (h_n_ftargets : ∀ j : Nat, 0 ≤ (n_ftargets j).toInt ∧ (n_ftargets j).toInt ≤ 11) (h_pcf : ∀ j : Nat, (-1) ≤ (pcf j).toInt ∧ (pcf j).toInt ≤ 7) (h_plf : ∀ j : Nat, 0 ≤ (plf j).toInt ∧ (plf j).toInt ≤ 2) : Met l yX6_findLeft (.code yX6_findLeft cX6_findLeft 8 none :: wsL_law) ({ frames := 4, cells := 0, slots := 0, locals := 105 }) (va_Pc [.ref sv, .ref pl, .int p0, .int p1, .ref vs] (fun U => U.heap.size = sz ∧ va_P D vwCl [(sv, .inr (6, [.ref n, .ref co, .ref sv_keep, .ref sv_scaled])), (co, .inr (0, [.ref n, .ref eq, .ref co_place])), (n, .inr (2, [.int n_nodes, .ref n_kind, .ref n_pay, .ref n_name, .ref n_ways, .ref n_held, .ref n_targets, .ref n_weights])), (n_kind, .inl (g 0, 12, .inl n_fkind)), (n_pay, .inl (g 0, 12, .inl n_fpay)), (n_ways, .inl (g 0, 12, .inl n_fways)), (n_held, .inl (g 0, 12, .inl n_fheld)), (n_targets, .inl (g 0, 36, .inl n_ftargets)), (n_weights, .inl (g 0, 36, .inl n_fweights)), (co_place, .inl (g 0, 12, .inl pcf)), (eq, .inr (1, [.ref eq_rows, .ref eq_right, .long ew])), (eq_right, .inl (g 1, 8, .inr (.inl fr))), (eq_rows, .inl (g 5, 8, .inr (.inr (.inr (.inr (fun i => if i < 8 then some (rr i) else none)))))), ((rr 0), .inl (g 1, 8, .inr (.inl (ct 0)))), ((rr 1), .inl (g 1, 8, .inr (.inl (ct 1)))), ((rr 2), .inl (g 1, 8, .inr (.inl (ct 2)))), ((rr 3), .inl (g 1, 8, .inr (.inl (ct 3)))), ((rr 4), .inl (g 1, 8, .inr (.inl (ct 4)))), ((rr 5), .inl (g 1, 8, .inr (.inl (ct 5)))), ((rr 6), .inl (g 1, 8, .inr (.inl (ct 6)))), ((rr 7), .inl (g 1, 8, .inr (.inl (ct 7)))), (pl, .inl (g 0, 12, .inl plf)), (vs, .inr (10, [.ref vs_part, .long vsw])), (vs_part, .inl (g 1, 12, .inr (.inl vsp)))] U.heap ∧ va_K D vwCl (TY g) U ∧ va_D (fun _ => True) [(sv, .inr (6, [.ref n, .ref co, .ref sv_keep, .ref sv_scaled])), (co, .inr (0, [.ref n, .ref eq, .ref co_place])), (n, .inr (2, [.int n_nodes, .ref n_kind, .ref n_pay, .ref n_name, .ref n_ways, .ref n_held, .ref n_targets, .ref n_weights])), (n_kind, .inl (g 0, 12, .inl n_fkind)), (n_pay, .inl (g 0, 12, .inl n_fpay)), (n_ways, .inl (g 0, 12, .inl n_fways)), (n_held, .inl (g 0, 12, .inl n_fheld)), (n_targets, .inl (g 0, 36, .inl n_ftargets)), (n_weights, .inl (g 0, 36, .inl n_fweights)), (co_place, .inl (g 0, 12, .inl pcf)), (eq, .inr (1, [.ref eq_rows, .ref eq_right, .long ew])), (eq_right, .inl (g 1, 8, .inr (.inl fr))), (eq_rows, .inl (g 5, 8, .inr (.inr (.inr (.inr (fun i => if i < 8 then some (rr i) else none)))))), ((rr 0), .inl (g 1, 8, .inr (.inl (ct 0)))), ((rr 1), .inl (g 1, 8, .inr (.inl (ct 1)))), ((rr 2), .inl (g 1, 8, .inr (.inl (ct 2)))), ((rr 3), .inl (g 1, 8, .inr (.inl (ct 3)))), ((rr 4), .inl (g 1, 8, .inr (.inl (ct 4)))), ((rr 5), .inl (g 1, 8, .inr (.inl (ct 5)))), ((rr 6), .inl (g 1, 8, .inr (.inl (ct 6)))), ((rr 7), .inl (g 1, 8, .inr (.inl (ct 7)))), (pl, .inl (g 0, 12, .inl plf)), (vs, .inr (10, [.ref vs_part, .long vsw])), (vs_part, .inl (g 1, 12, .inr (.inl vsp)))])) (va_Qv (fun (_ : Unit) => True) (fun _ t => ∃ opc : Nat → Int32, ∃ oew : Int64, ∃ ofr : Nat → Int64, ∃ opl : Nat → Int32, ∃ ovw : Int64, ∃ ovp : Nat → Int64, ∃ oct : Nat → Nat → Int64, (∀ j : Nat, (-1) ≤ (opc j).toInt ∧ (opc j).toInt ≤ 7) ∧ (∀ j : Nat, 0 ≤ (opl j).toInt ∧ (opl j).toInt ≤ 2) ∧ va_P D vwCl [(sv, .inr (6, [.ref n, .ref co, .ref sv_keep, .ref sv_scaled])), (co, .inr (0, [.ref n, .ref eq, .ref co_place])), (n, .inr (2, [.int n_nodes, .ref n_kind, .ref n_pay, .ref n_name, .ref n_ways, .ref n_held, .ref n_targets, .ref n_weights])), (n_kind, .inl (g 0, 12, .inl n_fkind)), (n_pay, .inl (g 0, 12, .inl n_fpay)), (n_ways, .inl (g 0, 12, .inl n_fways)), (n_held, .inl (g 0, 12, .inl n_fheld)), (n_targets, .inl (g 0, 36, .inl n_ftargets)), (n_weights, .inl (g 0, 36, .inl n_fweights)), (co_place, .inl (g 0, 12, .inl opc)), (eq, .inr (1, [.ref eq_rows, .ref eq_right, .long oew])), (eq_right, .inl (g 1, 8, .inr (.inl ofr))), (eq_rows, .inl (g 5, 8, .inr (.inr (.inr (.inr (fun i => if i < 8 then some (rr i) else none)))))), ((rr 0), .inl (g 1, 8, .inr (.inl (oct 0)))), ((rr 1), .inl (g 1, 8, .inr (.inl (oct 1)))), ((rr 2), .inl (g 1, 8, .inr (.inl (oct 2)))), ((rr 3), .inl (g 1, 8, .inr (.inl (oct 3)))), ((rr 4), .inl (g 1, 8, .inr (.inl (oct 4)))), ((rr 5), .inl (g 1, 8, .inr (.inl (oct 5)))), ((rr 6), .inl (g 1, 8, .inr (.inl (oct 6)))), ((rr 7), .inl (g 1, 8, .inr (.inl (oct 7)))), (pl, .inl (g 0, 12, .inl opl)), (vs, .inr (10, [.ref vs_part, .long ovw])), (vs_part, .inl (g 1, 12, .inr (.inl ovp)))] t.heap ∧ va_D (va_A [(sv, .inr (6, [.ref n, .ref co, .ref sv_keep, .ref sv_scaled])), (co, .inr (0, [.ref n, .ref eq, .ref co_place])), (n, .inr (2, [.int n_nodes, .ref n_kind, .ref n_pay, .ref n_name, .ref n_ways, .ref n_held, .ref n_targets, .ref n_weights])), (n_kind, .inl (g 0, 12, .inl n_fkind)), (n_pay, .inl (g 0, 12, .inl n_fpay)), (n_ways, .inl (g 0, 12, .inl n_fways)), (n_held, .inl (g 0, 12, .inl n_fheld)), (n_targets, .inl (g 0, 36, .inl n_ftargets)), (n_weights, .inl (g 0, 36, .inl n_fweights)), (co_place, .inl (g 0, 12, .inl pcf)), (eq, .inr (1, [.ref eq_rows, .ref eq_right, .long ew])), (eq_right, .inl (g 1, 8, .inr (.inl fr))), (eq_rows, .inl (g 5, 8, .inr (.inr (.inr (.inr (fun i => if i < 8 then some (rr i) else none)))))), ((rr 0), .inl (g 1, 8, .inr (.inl (ct 0)))), ((rr 1), .inl (g 1, 8, .inr (.inl (ct 1)))), ((rr 2), .inl (g 1, 8, .inr (.inl (ct 2)))), ((rr 3), .inl (g 1, 8, .inr (.inl (ct 3)))), ((rr 4), .inl (g 1, 8, .inr (.inl (ct 4)))), ((rr 5), .inl (g 1, 8, .inr (.inl (ct 5)))), ((rr 6), .inl (g 1, 8, .inr (.inl (ct 6)))), ((rr 7), .inl (g 1, 8, .inr (.inl (ct 7)))), (pl, .inl (g 0, 12, .inl plf)), (vs, .inr (10, [.ref vs_part, .long vsw])), (vs_part, .inl (g 1, 12, .inr (.inl vsp)))] sz) [(sv, .inr (6, [.ref n, .ref co, .ref sv_keep, .ref sv_scaled])), (co, .inr (0, [.ref n, .ref eq, .ref co_place])), (n, .inr (2, [.int n_nodes, .ref n_kind, .ref n_pay, .ref n_name, .ref n_ways, .ref n_held, .ref n_targets, .ref n_weights])), (n_kind, .inl (g 0, 12, .inl n_fkind)), (n_pay, .inl (g 0, 12, .inl n_fpay)), (n_ways, .inl (g 0, 12, .inl n_fways)), (n_held, .inl (g 0, 12, .inl n_fheld)), (n_targets, .inl (g 0, 36, .inl n_ftargets)), (n_weights, .inl (g 0, 36, .inl n_fweights)), (co_place, .inl (g 0, 12, .inl opc)), (eq, .inr (1, [.ref eq_rows, .ref eq_right, .long oew])), (eq_right, .inl (g 1, 8, .inr (.inl ofr))), (eq_rows, .inl (g 5, 8, .inr (.inr (.inr (.inr (fun i => if i < 8 then some (rr i) else none)))))), ((rr 0), .inl (g 1, 8, .inr (.inl (oct 0)))), ((rr 1), .inl (g 1, 8, .inr (.inl (oct 1)))), ((rr 2), .inl (g 1, 8, .inr (.inl (oct 2)))), ((rr 3), .inl (g 1, 8, .inr (.inl (oct 3)))), ((rr 4), .inl (g 1, 8, .inr (.inl (oct 4)))), ((rr 5), .inl (g 1, 8, .inr (.inl (oct 5)))), ((rr 6), .inl (g 1, 8, .inr (.inl (oct 6)))), ((rr 7), .inl (g 1, 8, .inr (.inl (oct 7)))), (pl, .inl (g 0, 12, .inl opl)), (vs, .inr (10, [.ref vs_part, .long ovw])), (vs_part, .inl (g 1, 12, .inr (.inl ovp)))]) (va_A [(sv, .inr (6, [.ref n, .ref co, .ref sv_keep, .ref sv_scaled])), (co, .inr (0, [.ref n, .ref eq, .ref co_place])), (n, .inr (2, [.int n_nodes, .ref n_kind, .ref n_pay, .ref n_name, .ref n_ways, .ref n_held, .ref n_targets, .ref n_weights])), (n_kind, .inl (g 0, 12, .inl n_fkind)), (n_pay, .inl (g 0, 12, .inl n_fpay)), (n_ways, .inl (g 0, 12, .inl n_fways)), (n_held, .inl (g 0, 12, .inl n_fheld)), (n_targets, .inl (g 0, 36, .inl n_ftargets)), (n_weights, .inl (g 0, 36, .inl n_fweights)), (co_place, .inl (g 0, 12, .inl pcf)), (eq, .inr (1, [.ref eq_rows, .ref eq_right, .long ew])), (eq_right, .inl (g 1, 8, .inr (.inl fr))), (eq_rows, .inl (g 5, 8, .inr (.inr (.inr (.inr (fun i => if i < 8 then some (rr i) else none)))))), ((rr 0), .inl (g 1, 8, .inr (.inl (ct 0)))), ((rr 1), .inl (g 1, 8, .inr (.inl (ct 1)))), ((rr 2), .inl (g 1, 8, .inr (.inl (ct 2)))), ((rr 3), .inl (g 1, 8, .inr (.inl (ct 3)))), ((rr 4), .inl (g 1, 8, .inr (.inl (ct 4)))), ((rr 5), .inl (g 1, 8, .inr (.inl (ct 5)))), ((rr 6), .inl (g 1, 8, .inr (.inl (ct 6)))), ((rr 7), .inl (g 1, 8, .inr (.inl (ct 7)))), (pl, .inl (g 0, 12, .inl plf)), (vs, .inr (10, [.ref vs_part, .long vsw])), (vs_part, .inl (g 1, 12, .inr (.inl vsp)))] sz)) 0 0 (va_A [(sv, .inr (6, [.ref n, .ref co, .ref sv_keep, .ref sv_scaled])), (co, .inr (0, [.ref n, .ref eq, .ref co_place])), (n, .inr (2, [.int n_nodes, .ref n_kind, .ref n_pay, .ref n_name, .ref n_ways, .ref n_held, .ref n_targets, .ref n_weights])), (n_kind, .inl (g 0, 12, .inl n_fkind)), (n_pay, .inl (g 0, 12, .inl n_fpay)), (n_ways, .inl (g 0, 12, .inl n_fways)), (n_held, .inl (g 0, 12, .inl n_fheld)), (n_targets, .inl (g 0, 36, .inl n_ftargets)), (n_weights, .inl (g 0, 36, .inl n_fweights)), (co_place, .inl (g 0, 12, .inl pcf)), (eq, .inr (1, [.ref eq_rows, .ref eq_right, .long ew])), (eq_right, .inl (g 1, 8, .inr (.inl fr))), (eq_rows, .inl (g 5, 8, .inr (.inr (.inr (.inr (fun i => if i < 8 then some (rr i) else none)))))), ((rr 0), .inl (g 1, 8, .inr (.inl (ct 0)))), ((rr 1), .inl (g 1, 8, .inr (.inl (ct 1)))), ((rr 2), .inl (g 1, 8, .inr (.inl (ct 2)))), ((rr 3), .inl (g 1, 8, .inr (.inl (ct 3)))), ((rr 4), .inl (g 1, 8, .inr (.inl (ct 4)))), ((rr 5), .inl (g 1, 8, .inr (.inl (ct 5)))), ((rr 6), .inl (g 1, 8, .inr (.inl (ct 6)))), ((rr 7), .inl (g 1, 8, .inr (.inl (ct 7)))), (pl, .inl (g 0, 12, .inl plf)), (vs, .inr (10, [.ref vs_part, .long vsw])), (vs_part, .inl (g 1, 12, .inr (.inl vsp)))] sz) := by
  refine Met.ofW (cc := cX6_findLeft) (maxL := 8) (ret := none) (by decide) rfl ?_
  intro p e s m args below meth c s₁ B hml hv
  obtain ⟨ha, hsz, hP, hK, hD0⟩ := hv
  have hx := B.exec
  have hb := B.bytes
  have hr := B.returns
  have hts0 := atoms_spec (ws := (.code yX6_findLeft cX6_findLeft 8 none :: wsL_law)) B.pre
  have hts : ∀ w ∈ wsL_law, w.before args s = true := fun w h => hts0 w (List.mem_cons_of_mem _ h)
  have hown : s.vm.findClass RX6 = some m.cls := findClass_of_methodNamed B.named
  have hlocks := B.notSynchronized
  subst hsz
  have hD := hD0.self (sz := s.heap.size)
  generalize hAe : va_A [(sv, .inr (6, [.ref n, .ref co, .ref sv_keep, .ref sv_scaled])), (co, .inr (0, [.ref n, .ref eq, .ref co_place])), (n, .inr (2, [.int n_nodes, .ref n_kind, .ref n_pay, .ref n_name, .ref n_ways, .ref n_held, .ref n_targets, .ref n_weights])), (n_kind, .inl (g 0, 12, .inl n_fkind)), (n_pay, .inl (g 0, 12, .inl n_fpay)), (n_ways, .inl (g 0, 12, .inl n_fways)), (n_held, .inl (g 0, 12, .inl n_fheld)), (n_targets, .inl (g 0, 36, .inl n_ftargets)), (n_weights, .inl (g 0, 36, .inl n_fweights)), (co_place, .inl (g 0, 12, .inl pcf)), (eq, .inr (1, [.ref eq_rows, .ref eq_right, .long ew])), (eq_right, .inl (g 1, 8, .inr (.inl fr))), (eq_rows, .inl (g 5, 8, .inr (.inr (.inr (.inr (fun i => if i < 8 then some (rr i) else none)))))), ((rr 0), .inl (g 1, 8, .inr (.inl (ct 0)))), ((rr 1), .inl (g 1, 8, .inr (.inl (ct 1)))), ((rr 2), .inl (g 1, 8, .inr (.inl (ct 2)))), ((rr 3), .inl (g 1, 8, .inr (.inl (ct 3)))), ((rr 4), .inl (g 1, 8, .inr (.inl (ct 4)))), ((rr 5), .inl (g 1, 8, .inr (.inl (ct 5)))), ((rr 6), .inl (g 1, 8, .inr (.inl (ct 6)))), ((rr 7), .inl (g 1, 8, .inr (.inl (ct 7)))), (pl, .inl (g 0, 12, .inl plf)), (vs, .inr (10, [.ref vs_part, .long vsw])), (vs_part, .inl (g 1, 12, .inr (.inl vsp)))] s.heap.size = A at hD ⊢
  have hA : ∀ q : Nat, s.heap.size ≤ q → A q := fun q h => by rw [← hAe]; exact Or.inr h
  have hS : va_S A s.heap s.heap [] := va_S.rf
  have hP : va_P D vwCl [(sv, .inr (6, [.ref n, .ref co, .ref sv_keep, .ref sv_scaled])), (co, .inr (0, [.ref n, .ref eq, .ref co_place])), (n, .inr (2, [.int n_nodes, .ref n_kind, .ref n_pay, .ref n_name, .ref n_ways, .ref n_held, .ref n_targets, .ref n_weights])), (n_kind, .inl (g 0, 12, .inl n_fkind)), (n_pay, .inl (g 0, 12, .inl n_fpay)), (n_ways, .inl (g 0, 12, .inl n_fways)), (n_held, .inl (g 0, 12, .inl n_fheld)), (n_targets, .inl (g 0, 36, .inl n_ftargets)), (n_weights, .inl (g 0, 36, .inl n_fweights)), (co_place, .inl (g 0, 12, .inl pcf)), (eq, .inr (1, [.ref eq_rows, .ref eq_right, .long ew])), (eq_right, .inl (g 1, 8, .inr (.inl fr))), (eq_rows, .inl (g 5, 8, .inr (.inr (.inr (.inr (fun i => if i < 8 then some (rr i) else none)))))), ((rr 0), .inl (g 1, 8, .inr (.inl (ct 0)))), ((rr 1), .inl (g 1, 8, .inr (.inl (ct 1)))), ((rr 2), .inl (g 1, 8, .inr (.inl (ct 2)))), ((rr 3), .inl (g 1, 8, .inr (.inl (ct 3)))), ((rr 4), .inl (g 1, 8, .inr (.inl (ct 4)))), ((rr 5), .inl (g 1, 8, .inr (.inl (ct 5)))), ((rr 6), .inl (g 1, 8, .inr (.inl (ct 6)))), ((rr 7), .inl (g 1, 8, .inr (.inl (ct 7)))), (pl, .inl (g 0, 12, .inl plf)), (vs, .inr (10, [.ref vs_part, .long vsw])), (vs_part, .inl (g 1, 12, .inr (.inl vsp)))] s.heap := hP
  refine W.eq (g2 := entryFrame m ([.ref sv, .ref pl, .int p0, .int p1, .ref vs] : List Value).toArray 8) (by rw [ha]) ?_
  have hl := lv_entry ([.ref sv, .ref pl, .int p0, .int p1, .ref vs]) (n := 8) (Nat.le_of_ble_eq_true rfl)
  rw [lg_entry_eq]
  generalize (lg_sl ([.ref sv, .ref pl, .int p0, .int p1, .ref vs]) ++ List.replicate (8 - (lg_sl ([.ref sv, .ref pl, .int p0, .int p1, .ref vs])).length) Slot.unset).toArray = ls at hl ⊢
  have hl : lv_has ls 8 [(0, .ref sv), (1, .ref pl), (2, .int p0), (3, .int p1), (4, .ref vs)] := hl
  refine lv_aload_n hx hb dX6_findLeft_0 rfl (lv_at hl 0 rfl) ?_
  refine lv_aload_n hx hb dX6_findLeft_1 rfl (lv_at hl 1 rfl) ?_
  have hPc := hP.sub (ws' := [(sv, .inr (6, [.ref n, .ref co, .ref sv_keep, .ref sv_scaled])), (co, .inr (0, [.ref n, .ref eq, .ref co_place])), (n, .inr (2, [.int n_nodes, .ref n_kind, .ref n_pay, .ref n_name, .ref n_ways, .ref n_held, .ref n_targets, .ref n_weights])), (n_kind, .inl (g 0, 12, .inl n_fkind)), (n_pay, .inl (g 0, 12, .inl n_fpay)), (n_ways, .inl (g 0, 12, .inl n_fways)), (n_held, .inl (g 0, 12, .inl n_fheld)), (n_targets, .inl (g 0, 36, .inl n_ftargets)), (n_weights, .inl (g 0, 36, .inl n_fweights)), (pl, .inl (g 0, 12, .inl plf))]) [0, 1, 2, 3, 4, 5, 6, 7, 8, 21] rfl
  refine vp_callSi (va_Run.run (va_runV (As := [.ref pl]) (rest := []) ⟨hx, hb, hml, hown, hts⟩ (c_X6_unavoidable l D g sv pl n co sv_keep sv_scaled eq co_place n_nodes n_kind n_pay n_name n_ways n_held n_targets n_weights n_fkind n_fpay n_fways n_fheld n_ftargets n_fweights plf (tr_w h_n_nodes (by decide) (by decide)) (tr_wa h_n_fkind (by decide) (by decide)) (tr_wa h_n_fways (by decide) (by decide)) (tr_wa h_n_fheld (by decide) (by decide)) (tr_wa h_n_ftargets (by decide) (by decide)) (tr_wa h_plf (by decide) (by decide))) (cwV 1 hts (tz_gV qw_571 qw_572 qw_573 qw_558 qw_574) rfl rfl rfl (by decide +kernel) ⟨Nat.le_of_ble_eq_true rfl, Nat.le_of_ble_eq_true rfl⟩) ⟨tz_blS, va_recv hK hPc (ci := 6) (q0 := 0) rfl rfl, tz_preS hPc hK⟩ rfl rfl hl.1 rfl (lv_room (Nat.le_of_ble_eq_true rfl)) dX6_findLeft_2 ⟨Nat.le_of_ble_eq_true rfl, Nat.le_of_ble_eq_true rfl⟩)) (fun r_93706 hw => ?_)
  refine lv_istore (lv' := [(5, .int r_93706), (0, .ref sv), (1, .ref pl), (2, .int p0), (3, .int p1), (4, .ref vs)]) hx hb dX6_findLeft_5 hl (by decide) rfl (fun ls hl => ?_)
  refine lv_iconst (v := 1) hx hb dX6_findLeft_7 (by decide) ?_
  refine lv_istore (lv' := [(6, .int 1), (5, .int r_93706), (0, .ref sv), (1, .ref pl), (2, .int p0), (3, .int p1), (4, .ref vs)]) hx hb dX6_findLeft_8 hl (by decide) rfl (fun ls hl => ?_)
  refine lv_iconst (v := 0) hx hb dX6_findLeft_10 (by decide) ?_
  refine lv_istore (lv' := [(7, .int 0), (6, .int 1), (5, .int r_93706), (0, .ref sv), (1, .ref pl), (2, .int p0), (3, .int p1), (4, .ref vs)]) hx hb dX6_findLeft_11 hl (by decide) rfl (fun ls hl => ?_)
  have lp_94341 : ∀ (n_94341 : Nat) (ct_94332 : Nat → Nat → Int64) (x_94333 : Int32) (x_94334 : Int32) (f_94335 : Nat → Int32) (x_94336 : Int64) (f_94337 : Nat → Int64) (f_94338 : Nat → Int32) (x_94339 : Int64) (f_94340 : Nat → Int64) (H : Heap) (locs : List Loc) (ls : Array Slot), (0 ≤ (x_94333 : Int32).toInt ∧ (x_94333 : Int32).toInt ≤ 2147483647) → (0 ≤ (x_94334 : Int32).toInt ∧ (x_94334 : Int32).toInt ≤ 1) → (∀ j : Nat, (-1) ≤ (f_94335 j).toInt ∧ (f_94335 j).toInt ≤ 7) → (∀ j : Nat, 0 ≤ (f_94338 j).toInt ∧ (f_94338 j).toInt ≤ 2) → (2147483647 - x_94333.toInt < (n_94341 : Int)) → va_P D vwCl [(sv, .inr (6, [.ref n, .ref co, .ref sv_keep, .ref sv_scaled])), (co, .inr (0, [.ref n, .ref eq, .ref co_place])), (n, .inr (2, [.int n_nodes, .ref n_kind, .ref n_pay, .ref n_name, .ref n_ways, .ref n_held, .ref n_targets, .ref n_weights])), (n_kind, .inl (g 0, 12, .inl n_fkind)), (n_pay, .inl (g 0, 12, .inl n_fpay)), (n_ways, .inl (g 0, 12, .inl n_fways)), (n_held, .inl (g 0, 12, .inl n_fheld)), (n_targets, .inl (g 0, 36, .inl n_ftargets)), (n_weights, .inl (g 0, 36, .inl n_fweights)), (co_place, .inl (g 0, 12, .inl f_94335)), (eq, .inr (1, [.ref eq_rows, .ref eq_right, .long x_94336])), (eq_right, .inl (g 1, 8, .inr (.inl f_94337))), (eq_rows, .inl (g 5, 8, .inr (.inr (.inr (.inr (fun i => if i < 8 then some (rr i) else none)))))), ((rr 0), .inl (g 1, 8, .inr (.inl (ct_94332 0)))), ((rr 1), .inl (g 1, 8, .inr (.inl (ct_94332 1)))), ((rr 2), .inl (g 1, 8, .inr (.inl (ct_94332 2)))), ((rr 3), .inl (g 1, 8, .inr (.inl (ct_94332 3)))), ((rr 4), .inl (g 1, 8, .inr (.inl (ct_94332 4)))), ((rr 5), .inl (g 1, 8, .inr (.inl (ct_94332 5)))), ((rr 6), .inl (g 1, 8, .inr (.inl (ct_94332 6)))), ((rr 7), .inl (g 1, 8, .inr (.inl (ct_94332 7)))), (pl, .inl (g 0, 12, .inl f_94338)), (vs, .inr (10, [.ref vs_part, .long x_94339])), (vs_part, .inl (g 1, 12, .inr (.inl f_94340)))] H → va_D A [(sv, .inr (6, [.ref n, .ref co, .ref sv_keep, .ref sv_scaled])), (co, .inr (0, [.ref n, .ref eq, .ref co_place])), (n, .inr (2, [.int n_nodes, .ref n_kind, .ref n_pay, .ref n_name, .ref n_ways, .ref n_held, .ref n_targets, .ref n_weights])), (n_kind, .inl (g 0, 12, .inl n_fkind)), (n_pay, .inl (g 0, 12, .inl n_fpay)), (n_ways, .inl (g 0, 12, .inl n_fways)), (n_held, .inl (g 0, 12, .inl n_fheld)), (n_targets, .inl (g 0, 36, .inl n_ftargets)), (n_weights, .inl (g 0, 36, .inl n_fweights)), (co_place, .inl (g 0, 12, .inl f_94335)), (eq, .inr (1, [.ref eq_rows, .ref eq_right, .long x_94336])), (eq_right, .inl (g 1, 8, .inr (.inl f_94337))), (eq_rows, .inl (g 5, 8, .inr (.inr (.inr (.inr (fun i => if i < 8 then some (rr i) else none)))))), ((rr 0), .inl (g 1, 8, .inr (.inl (ct_94332 0)))), ((rr 1), .inl (g 1, 8, .inr (.inl (ct_94332 1)))), ((rr 2), .inl (g 1, 8, .inr (.inl (ct_94332 2)))), ((rr 3), .inl (g 1, 8, .inr (.inl (ct_94332 3)))), ((rr 4), .inl (g 1, 8, .inr (.inl (ct_94332 4)))), ((rr 5), .inl (g 1, 8, .inr (.inl (ct_94332 5)))), ((rr 6), .inl (g 1, 8, .inr (.inl (ct_94332 6)))), ((rr 7), .inl (g 1, 8, .inr (.inl (ct_94332 7)))), (pl, .inl (g 0, 12, .inl f_94338)), (vs, .inr (10, [.ref vs_part, .long x_94339])), (vs_part, .inl (g 1, 12, .inr (.inl f_94340)))] → va_S A s.heap H locs → lv_has ls 8 [(7, .int x_94333), (6, .int x_94334), (5, .int r_93706), (0, .ref sv), (1, .ref pl), (2, .int p0), (3, .int p1), (4, .ref vs)] → W p l e (headSpec (.code yX6_findLeft cX6_findLeft 8 none :: wsL_law) ({ frames := 4, cells := 0, slots := 0, locals := 105 })).room s m args below meth c H locs 0 0 (MQ below (va_Qv (fun (_ : Unit) => True) (fun _ t => ∃ opc : Nat → Int32, ∃ oew : Int64, ∃ ofr : Nat → Int64, ∃ opl : Nat → Int32, ∃ ovw : Int64, ∃ ovp : Nat → Int64, ∃ oct : Nat → Nat → Int64, (∀ j : Nat, (-1) ≤ (opc j).toInt ∧ (opc j).toInt ≤ 7) ∧ (∀ j : Nat, 0 ≤ (opl j).toInt ∧ (opl j).toInt ≤ 2) ∧ va_P D vwCl [(sv, .inr (6, [.ref n, .ref co, .ref sv_keep, .ref sv_scaled])), (co, .inr (0, [.ref n, .ref eq, .ref co_place])), (n, .inr (2, [.int n_nodes, .ref n_kind, .ref n_pay, .ref n_name, .ref n_ways, .ref n_held, .ref n_targets, .ref n_weights])), (n_kind, .inl (g 0, 12, .inl n_fkind)), (n_pay, .inl (g 0, 12, .inl n_fpay)), (n_ways, .inl (g 0, 12, .inl n_fways)), (n_held, .inl (g 0, 12, .inl n_fheld)), (n_targets, .inl (g 0, 36, .inl n_ftargets)), (n_weights, .inl (g 0, 36, .inl n_fweights)), (co_place, .inl (g 0, 12, .inl opc)), (eq, .inr (1, [.ref eq_rows, .ref eq_right, .long oew])), (eq_right, .inl (g 1, 8, .inr (.inl ofr))), (eq_rows, .inl (g 5, 8, .inr (.inr (.inr (.inr (fun i => if i < 8 then some (rr i) else none)))))), ((rr 0), .inl (g 1, 8, .inr (.inl (oct 0)))), ((rr 1), .inl (g 1, 8, .inr (.inl (oct 1)))), ((rr 2), .inl (g 1, 8, .inr (.inl (oct 2)))), ((rr 3), .inl (g 1, 8, .inr (.inl (oct 3)))), ((rr 4), .inl (g 1, 8, .inr (.inl (oct 4)))), ((rr 5), .inl (g 1, 8, .inr (.inl (oct 5)))), ((rr 6), .inl (g 1, 8, .inr (.inl (oct 6)))), ((rr 7), .inl (g 1, 8, .inr (.inl (oct 7)))), (pl, .inl (g 0, 12, .inl opl)), (vs, .inr (10, [.ref vs_part, .long ovw])), (vs_part, .inl (g 1, 12, .inr (.inl ovp)))] t.heap ∧ va_D A [(sv, .inr (6, [.ref n, .ref co, .ref sv_keep, .ref sv_scaled])), (co, .inr (0, [.ref n, .ref eq, .ref co_place])), (n, .inr (2, [.int n_nodes, .ref n_kind, .ref n_pay, .ref n_name, .ref n_ways, .ref n_held, .ref n_targets, .ref n_weights])), (n_kind, .inl (g 0, 12, .inl n_fkind)), (n_pay, .inl (g 0, 12, .inl n_fpay)), (n_ways, .inl (g 0, 12, .inl n_fways)), (n_held, .inl (g 0, 12, .inl n_fheld)), (n_targets, .inl (g 0, 36, .inl n_ftargets)), (n_weights, .inl (g 0, 36, .inl n_fweights)), (co_place, .inl (g 0, 12, .inl opc)), (eq, .inr (1, [.ref eq_rows, .ref eq_right, .long oew])), (eq_right, .inl (g 1, 8, .inr (.inl ofr))), (eq_rows, .inl (g 5, 8, .inr (.inr (.inr (.inr (fun i => if i < 8 then some (rr i) else none)))))), ((rr 0), .inl (g 1, 8, .inr (.inl (oct 0)))), ((rr 1), .inl (g 1, 8, .inr (.inl (oct 1)))), ((rr 2), .inl (g 1, 8, .inr (.inl (oct 2)))), ((rr 3), .inl (g 1, 8, .inr (.inl (oct 3)))), ((rr 4), .inl (g 1, 8, .inr (.inl (oct 4)))), ((rr 5), .inl (g 1, 8, .inr (.inl (oct 5)))), ((rr 6), .inl (g 1, 8, .inr (.inl (oct 6)))), ((rr 7), .inl (g 1, 8, .inr (.inl (oct 7)))), (pl, .inl (g 0, 12, .inl opl)), (vs, .inr (10, [.ref vs_part, .long ovw])), (vs_part, .inl (g 1, 12, .inr (.inl ovp)))]) A) args s 0 0 A) (F0 m 13 ls []) := by
    intro n_94341
    induction n_94341 with
    | zero =>
      intro ct_94332 x_94333 x_94334 f_94335 x_94336 f_94337 f_94338 x_94339 f_94340 H locs ls h_x_94333 h_x_94334 h_f_94335 h_f_94338 hm_94341 hP hD hS hl
      exfalso; omega
    | succ n_94341 ih_94341 =>
      intro ct_94332 x_94333 x_94334 f_94335 x_94336 f_94337 f_94338 x_94339 f_94340 H locs ls h_x_94333 h_x_94334 h_f_94335 h_f_94338 hm_94341 hP hD hS hl
      refine lv_iload hx hb dX6_findLeft_13 (lv_at hl 1 rfl) ?_
      refine lv_if_eq (tgt := 66) hx hb dX6_findLeft_15 (by decide) (fun c_94342 => ?_) (fun c_94342 => ?_)
      · skip
        have c_94342_i := c_94342
        have c_94342_i : (x_94334 : Int32).toInt = (0 : Int32).toInt := congrArg Int32.toInt c_94342
        have h_94343 : 0 ≤ (x_94334 : Int32).toInt ∧ (x_94334 : Int32).toInt ≤ 0 := by have q1 := h_x_94334; have q2 := (⟨by decide, by decide⟩ : 0 ≤ (0 : Int32).toInt ∧ (0 : Int32).toInt ≤ 0); omega
        have hP9 := hP.sub (ws' := [(sv, .inr (6, [.ref n, .ref co, .ref sv_keep, .ref sv_scaled])), (co, .inr (0, [.ref n, .ref eq, .ref co_place])), (n, .inr (2, [.int n_nodes, .ref n_kind, .ref n_pay, .ref n_name, .ref n_ways, .ref n_held, .ref n_targets, .ref n_weights])), (n_kind, .inl (g 0, 12, .inl n_fkind)), (n_pay, .inl (g 0, 12, .inl n_fpay)), (n_ways, .inl (g 0, 12, .inl n_fways)), (n_held, .inl (g 0, 12, .inl n_fheld)), (n_targets, .inl (g 0, 36, .inl n_ftargets)), (n_weights, .inl (g 0, 36, .inl n_fweights)), (co_place, .inl (g 0, 12, .inl f_94335)), (eq, .inr (1, [.ref eq_rows, .ref eq_right, .long x_94336])), (eq_right, .inl (g 1, 8, .inr (.inl f_94337))), (eq_rows, .inl (g 5, 8, .inr (.inr (.inr (.inr (fun i => if i < 8 then some (rr i) else none)))))), ((rr 0), .inl (g 1, 8, .inr (.inl (ct_94332 0)))), ((rr 1), .inl (g 1, 8, .inr (.inl (ct_94332 1)))), ((rr 2), .inl (g 1, 8, .inr (.inl (ct_94332 2)))), ((rr 3), .inl (g 1, 8, .inr (.inl (ct_94332 3)))), ((rr 4), .inl (g 1, 8, .inr (.inl (ct_94332 4)))), ((rr 5), .inl (g 1, 8, .inr (.inl (ct_94332 5)))), ((rr 6), .inl (g 1, 8, .inr (.inl (ct_94332 6)))), ((rr 7), .inl (g 1, 8, .inr (.inl (ct_94332 7)))), (pl, .inl (g 0, 12, .inl f_94338)), (vs, .inr (10, [.ref vs_part, .long x_94339])), (vs_part, .inl (g 1, 12, .inr (.inl f_94340)))]) [0, 1, 2, 3, 4, 5, 6, 7, 8, 9, 10, 11, 12, 13, 14, 15, 16, 17, 18, 19, 20, 21, 22, 23] rfl
        have hD9 := hD.sub (ws' := [(sv, .inr (6, [.ref n, .ref co, .ref sv_keep, .ref sv_scaled])), (co, .inr (0, [.ref n, .ref eq, .ref co_place])), (n, .inr (2, [.int n_nodes, .ref n_kind, .ref n_pay, .ref n_name, .ref n_ways, .ref n_held, .ref n_targets, .ref n_weights])), (n_kind, .inl (g 0, 12, .inl n_fkind)), (n_pay, .inl (g 0, 12, .inl n_fpay)), (n_ways, .inl (g 0, 12, .inl n_fways)), (n_held, .inl (g 0, 12, .inl n_fheld)), (n_targets, .inl (g 0, 36, .inl n_ftargets)), (n_weights, .inl (g 0, 36, .inl n_fweights)), (co_place, .inl (g 0, 12, .inl f_94335)), (eq, .inr (1, [.ref eq_rows, .ref eq_right, .long x_94336])), (eq_right, .inl (g 1, 8, .inr (.inl f_94337))), (eq_rows, .inl (g 5, 8, .inr (.inr (.inr (.inr (fun i => if i < 8 then some (rr i) else none)))))), ((rr 0), .inl (g 1, 8, .inr (.inl (ct_94332 0)))), ((rr 1), .inl (g 1, 8, .inr (.inl (ct_94332 1)))), ((rr 2), .inl (g 1, 8, .inr (.inl (ct_94332 2)))), ((rr 3), .inl (g 1, 8, .inr (.inl (ct_94332 3)))), ((rr 4), .inl (g 1, 8, .inr (.inl (ct_94332 4)))), ((rr 5), .inl (g 1, 8, .inr (.inl (ct_94332 5)))), ((rr 6), .inl (g 1, 8, .inr (.inl (ct_94332 6)))), ((rr 7), .inl (g 1, 8, .inr (.inl (ct_94332 7)))), (pl, .inl (g 0, 12, .inl f_94338)), (vs, .inr (10, [.ref vs_part, .long x_94339])), (vs_part, .inl (g 1, 12, .inr (.inl f_94340)))]) [0, 1, 2, 3, 4, 5, 6, 7, 8, 9, 10, 11, 12, 13, 14, 15, 16, 17, 18, 19, 20, 21, 22, 23] (by decide) rfl
        exact W.vret hx hb hr (fun t ht hW => ⟨⟨(), rfl, trivial, f_94335, x_94336, f_94337, f_94338, x_94339, f_94340, ct_94332, (tr_wa h_f_94335 (by decide) (by decide)), (tr_wa h_f_94338 (by decide) (by decide)), by rw [ht]; exact hP9, hD9⟩, hS.F ht⟩) hS.2.2 dX6_findLeft_66
      · skip
        have c_94342_i := c_94342
        have c_94342_i : ¬ (x_94334 : Int32).toInt = (0 : Int32).toInt := (fun q => c_94342 (Int32.toInt_inj.mp q))
        have h_94344 : 1 ≤ (x_94334 : Int32).toInt ∧ (x_94334 : Int32).toInt ≤ 1 := by have q1 := h_x_94334; have q2 := (⟨by decide, by decide⟩ : 0 ≤ (0 : Int32).toInt ∧ (0 : Int32).toInt ≤ 0); omega
        refine lv_iload hx hb dX6_findLeft_18 (lv_at hl 0 rfl) ?_
        refine lv_sipush (v := 6561) hx hb dX6_findLeft_20 (by decide) ?_
        refine lv_icmp_ge (tgt := 66) hx hb dX6_findLeft_23 (by decide) (fun c_94345 => ?_) (fun c_94345 => ?_)
        · skip
          have c_94345_i := Int32.le_iff_toInt_le.mp c_94345
          have h_94346 : 6561 ≤ (x_94333 : Int32).toInt ∧ (x_94333 : Int32).toInt ≤ 2147483647 := by have q1 := h_x_94333; have q2 := (⟨by decide, by decide⟩ : 6561 ≤ (6561 : Int32).toInt ∧ (6561 : Int32).toInt ≤ 6561); omega
          have hP9 := hP.sub (ws' := [(sv, .inr (6, [.ref n, .ref co, .ref sv_keep, .ref sv_scaled])), (co, .inr (0, [.ref n, .ref eq, .ref co_place])), (n, .inr (2, [.int n_nodes, .ref n_kind, .ref n_pay, .ref n_name, .ref n_ways, .ref n_held, .ref n_targets, .ref n_weights])), (n_kind, .inl (g 0, 12, .inl n_fkind)), (n_pay, .inl (g 0, 12, .inl n_fpay)), (n_ways, .inl (g 0, 12, .inl n_fways)), (n_held, .inl (g 0, 12, .inl n_fheld)), (n_targets, .inl (g 0, 36, .inl n_ftargets)), (n_weights, .inl (g 0, 36, .inl n_fweights)), (co_place, .inl (g 0, 12, .inl f_94335)), (eq, .inr (1, [.ref eq_rows, .ref eq_right, .long x_94336])), (eq_right, .inl (g 1, 8, .inr (.inl f_94337))), (eq_rows, .inl (g 5, 8, .inr (.inr (.inr (.inr (fun i => if i < 8 then some (rr i) else none)))))), ((rr 0), .inl (g 1, 8, .inr (.inl (ct_94332 0)))), ((rr 1), .inl (g 1, 8, .inr (.inl (ct_94332 1)))), ((rr 2), .inl (g 1, 8, .inr (.inl (ct_94332 2)))), ((rr 3), .inl (g 1, 8, .inr (.inl (ct_94332 3)))), ((rr 4), .inl (g 1, 8, .inr (.inl (ct_94332 4)))), ((rr 5), .inl (g 1, 8, .inr (.inl (ct_94332 5)))), ((rr 6), .inl (g 1, 8, .inr (.inl (ct_94332 6)))), ((rr 7), .inl (g 1, 8, .inr (.inl (ct_94332 7)))), (pl, .inl (g 0, 12, .inl f_94338)), (vs, .inr (10, [.ref vs_part, .long x_94339])), (vs_part, .inl (g 1, 12, .inr (.inl f_94340)))]) [0, 1, 2, 3, 4, 5, 6, 7, 8, 9, 10, 11, 12, 13, 14, 15, 16, 17, 18, 19, 20, 21, 22, 23] rfl
          have hD9 := hD.sub (ws' := [(sv, .inr (6, [.ref n, .ref co, .ref sv_keep, .ref sv_scaled])), (co, .inr (0, [.ref n, .ref eq, .ref co_place])), (n, .inr (2, [.int n_nodes, .ref n_kind, .ref n_pay, .ref n_name, .ref n_ways, .ref n_held, .ref n_targets, .ref n_weights])), (n_kind, .inl (g 0, 12, .inl n_fkind)), (n_pay, .inl (g 0, 12, .inl n_fpay)), (n_ways, .inl (g 0, 12, .inl n_fways)), (n_held, .inl (g 0, 12, .inl n_fheld)), (n_targets, .inl (g 0, 36, .inl n_ftargets)), (n_weights, .inl (g 0, 36, .inl n_fweights)), (co_place, .inl (g 0, 12, .inl f_94335)), (eq, .inr (1, [.ref eq_rows, .ref eq_right, .long x_94336])), (eq_right, .inl (g 1, 8, .inr (.inl f_94337))), (eq_rows, .inl (g 5, 8, .inr (.inr (.inr (.inr (fun i => if i < 8 then some (rr i) else none)))))), ((rr 0), .inl (g 1, 8, .inr (.inl (ct_94332 0)))), ((rr 1), .inl (g 1, 8, .inr (.inl (ct_94332 1)))), ((rr 2), .inl (g 1, 8, .inr (.inl (ct_94332 2)))), ((rr 3), .inl (g 1, 8, .inr (.inl (ct_94332 3)))), ((rr 4), .inl (g 1, 8, .inr (.inl (ct_94332 4)))), ((rr 5), .inl (g 1, 8, .inr (.inl (ct_94332 5)))), ((rr 6), .inl (g 1, 8, .inr (.inl (ct_94332 6)))), ((rr 7), .inl (g 1, 8, .inr (.inl (ct_94332 7)))), (pl, .inl (g 0, 12, .inl f_94338)), (vs, .inr (10, [.ref vs_part, .long x_94339])), (vs_part, .inl (g 1, 12, .inr (.inl f_94340)))]) [0, 1, 2, 3, 4, 5, 6, 7, 8, 9, 10, 11, 12, 13, 14, 15, 16, 17, 18, 19, 20, 21, 22, 23] (by decide) rfl
          exact W.vret hx hb hr (fun t ht hW => ⟨⟨(), rfl, trivial, f_94335, x_94336, f_94337, f_94338, x_94339, f_94340, ct_94332, (tr_wa h_f_94335 (by decide) (by decide)), (tr_wa h_f_94338 (by decide) (by decide)), by rw [ht]; exact hP9, hD9⟩, hS.F ht⟩) hS.2.2 dX6_findLeft_66
        · skip
          have c_94345_i := Int32.lt_iff_toInt_lt.mp (Int32.not_le.mp c_94345)
          have h_94347 : 0 ≤ (x_94333 : Int32).toInt ∧ (x_94333 : Int32).toInt ≤ 6560 := by have q1 := h_x_94333; have q2 := (⟨by decide, by decide⟩ : 6561 ≤ (6561 : Int32).toInt ∧ (6561 : Int32).toInt ≤ 6561); omega
          refine lv_aload_n hx hb dX6_findLeft_26 rfl (lv_at hl 3 rfl) ?_
          refine va_get (D := D) (ci := 6) (v := .ref co) (C := RX6) (T := TX6) (N := 4) hx hb hts inlX6 hown hK hP 0 rfl rfl 1 (by decide) (hts (Cond.fieldLink RX6 28 "ChanceRings$Solver" "course" "LChanceRings$Course;") qw_565) (fun _ h9 => h9) rfl dX6_findLeft_27 ?_
          refine lv_aload_n hx hb dX6_findLeft_30 rfl (lv_at hl 4 rfl) ?_
          refine lv_iload hx hb dX6_findLeft_31 (lv_at hl 2 rfl) ?_
          refine lv_iload_n hx hb dX6_findLeft_33 rfl (lv_at hl 5 rfl) ?_
          refine lv_iload_n hx hb dX6_findLeft_34 rfl (lv_at hl 6 rfl) ?_
          refine lv_aload hx hb dX6_findLeft_35 (lv_at hl 7 rfl) ?_
          have hPc := hP.sub (ws' := [(co, .inr (0, [.ref n, .ref eq, .ref co_place])), (n, .inr (2, [.int n_nodes, .ref n_kind, .ref n_pay, .ref n_name, .ref n_ways, .ref n_held, .ref n_targets, .ref n_weights])), (n_kind, .inl (g 0, 12, .inl n_fkind)), (n_pay, .inl (g 0, 12, .inl n_fpay)), (n_ways, .inl (g 0, 12, .inl n_fways)), (n_held, .inl (g 0, 12, .inl n_fheld)), (n_targets, .inl (g 0, 36, .inl n_ftargets)), (n_weights, .inl (g 0, 36, .inl n_fweights)), (co_place, .inl (g 0, 12, .inl f_94335)), (eq, .inr (1, [.ref eq_rows, .ref eq_right, .long x_94336])), (eq_right, .inl (g 1, 8, .inr (.inl f_94337))), (eq_rows, .inl (g 5, 8, .inr (.inr (.inr (.inr (fun i => if i < 8 then some (rr i) else none)))))), ((rr 0), .inl (g 1, 8, .inr (.inl (ct_94332 0)))), ((rr 1), .inl (g 1, 8, .inr (.inl (ct_94332 1)))), ((rr 2), .inl (g 1, 8, .inr (.inl (ct_94332 2)))), ((rr 3), .inl (g 1, 8, .inr (.inl (ct_94332 3)))), ((rr 4), .inl (g 1, 8, .inr (.inl (ct_94332 4)))), ((rr 5), .inl (g 1, 8, .inr (.inl (ct_94332 5)))), ((rr 6), .inl (g 1, 8, .inr (.inl (ct_94332 6)))), ((rr 7), .inl (g 1, 8, .inr (.inl (ct_94332 7)))), (pl, .inl (g 0, 12, .inl f_94338)), (vs, .inr (10, [.ref vs_part, .long x_94339])), (vs_part, .inl (g 1, 12, .inr (.inl f_94340)))]) [1, 2, 3, 4, 5, 6, 7, 8, 9, 10, 11, 12, 13, 14, 15, 16, 17, 18, 19, 20, 21, 22, 23] rfl
          have hDc := hD.sub (ws' := [(co, .inr (0, [.ref n, .ref eq, .ref co_place])), (n, .inr (2, [.int n_nodes, .ref n_kind, .ref n_pay, .ref n_name, .ref n_ways, .ref n_held, .ref n_targets, .ref n_weights])), (n_kind, .inl (g 0, 12, .inl n_fkind)), (n_pay, .inl (g 0, 12, .inl n_fpay)), (n_ways, .inl (g 0, 12, .inl n_fways)), (n_held, .inl (g 0, 12, .inl n_fheld)), (n_targets, .inl (g 0, 36, .inl n_ftargets)), (n_weights, .inl (g 0, 36, .inl n_fweights)), (co_place, .inl (g 0, 12, .inl f_94335)), (eq, .inr (1, [.ref eq_rows, .ref eq_right, .long x_94336])), (eq_right, .inl (g 1, 8, .inr (.inl f_94337))), (eq_rows, .inl (g 5, 8, .inr (.inr (.inr (.inr (fun i => if i < 8 then some (rr i) else none)))))), ((rr 0), .inl (g 1, 8, .inr (.inl (ct_94332 0)))), ((rr 1), .inl (g 1, 8, .inr (.inl (ct_94332 1)))), ((rr 2), .inl (g 1, 8, .inr (.inl (ct_94332 2)))), ((rr 3), .inl (g 1, 8, .inr (.inl (ct_94332 3)))), ((rr 4), .inl (g 1, 8, .inr (.inl (ct_94332 4)))), ((rr 5), .inl (g 1, 8, .inr (.inl (ct_94332 5)))), ((rr 6), .inl (g 1, 8, .inr (.inl (ct_94332 6)))), ((rr 7), .inl (g 1, 8, .inr (.inl (ct_94332 7)))), (pl, .inl (g 0, 12, .inl f_94338)), (vs, .inr (10, [.ref vs_part, .long x_94339])), (vs_part, .inl (g 1, 12, .inr (.inl f_94340)))]) [1, 2, 3, 4, 5, 6, 7, 8, 9, 10, 11, 12, 13, 14, 15, 16, 17, 18, 19, 20, 21, 22, 23] (by decide) rfl
          have hFc := va_free (wc := [(co, .inr (0, [.ref n, .ref eq, .ref co_place])), (n, .inr (2, [.int n_nodes, .ref n_kind, .ref n_pay, .ref n_name, .ref n_ways, .ref n_held, .ref n_targets, .ref n_weights])), (n_kind, .inl (g 0, 12, .inl n_fkind)), (n_pay, .inl (g 0, 12, .inl n_fpay)), (n_ways, .inl (g 0, 12, .inl n_fways)), (n_held, .inl (g 0, 12, .inl n_fheld)), (n_targets, .inl (g 0, 36, .inl n_ftargets)), (n_weights, .inl (g 0, 36, .inl n_fweights)), (co_place, .inl (g 0, 12, .inl f_94335)), (eq, .inr (1, [.ref eq_rows, .ref eq_right, .long x_94336])), (eq_right, .inl (g 1, 8, .inr (.inl f_94337))), (eq_rows, .inl (g 5, 8, .inr (.inr (.inr (.inr (fun i => if i < 8 then some (rr i) else none)))))), ((rr 0), .inl (g 1, 8, .inr (.inl (ct_94332 0)))), ((rr 1), .inl (g 1, 8, .inr (.inl (ct_94332 1)))), ((rr 2), .inl (g 1, 8, .inr (.inl (ct_94332 2)))), ((rr 3), .inl (g 1, 8, .inr (.inl (ct_94332 3)))), ((rr 4), .inl (g 1, 8, .inr (.inl (ct_94332 4)))), ((rr 5), .inl (g 1, 8, .inr (.inl (ct_94332 5)))), ((rr 6), .inl (g 1, 8, .inr (.inl (ct_94332 6)))), ((rr 7), .inl (g 1, 8, .inr (.inl (ct_94332 7)))), (pl, .inl (g 0, 12, .inl f_94338)), (vs, .inr (10, [.ref vs_part, .long x_94339])), (vs_part, .inl (g 1, 12, .inr (.inl f_94340)))]) hD hS hA [1, 2, 3, 4, 5, 6, 7, 8, 9, 10, 11, 12, 13, 14, 15, 16, 17, 18, 19, 20, 21, 22, 23] rfl
          refine va_callv (va_runV (As := [.ref pl, .int r_93706, .int p0, .int p1, .ref vs]) (rest := []) ⟨hx, hb, hml, hown, hts⟩ (c_X0_expectPay l D g H.size co pl r_93706 p0 p1 vs n eq co_place n_nodes n_kind n_pay n_name n_ways n_held n_targets n_weights n_fkind n_fpay n_fways n_fheld n_ftargets n_fweights f_94335 eq_rows eq_right x_94336 f_94337 rr ct_94332 f_94338 vs_part x_94339 f_94340 (tr_w h_n_nodes (by decide) (by decide)) (tr_wa h_n_fkind (by decide) (by decide)) (tr_wa h_n_fways (by decide) (by decide)) (tr_wa h_n_fheld (by decide) (by decide)) (tr_wa h_n_ftargets (by decide) (by decide)) (tr_wa h_f_94335 (by decide) (by decide)) (tr_wa h_f_94338 (by decide) (by decide))) (cwV 5 hts (tz_gV qw_575 qw_576 qw_577 qw_490 qw_578) rfl rfl rfl (by decide +kernel) ⟨Nat.le_of_ble_eq_true rfl, Nat.le_of_ble_eq_true rfl⟩) ⟨tz_blQ, va_recv hK hPc (ci := 0) (q0 := 0) rfl rfl, tz_preQ hPc hK hDc⟩ rfl rfl hl.1 rfl (lv_room (Nat.le_of_ble_eq_true rfl)) dX6_findLeft_37 ⟨Nat.le_of_ble_eq_true rfl, Nat.le_of_ble_eq_true rfl⟩) hS (fun q _ h => hFc q h) hFc (fun u t H1 locs ht hvm hw hB hz1 hk1 hS => ?_)
          obtain ⟨opc_94349, oew_94350, ofr_94351, ovw_94352, ovp_94353, oct_94354, hf_94355, hP1, hD1⟩ := hB
          rw [ht] at hP1
          obtain ⟨hP, hD⟩ := va_join (wr := [(sv, .inr (6, [.ref n, .ref co, .ref sv_keep, .ref sv_scaled]))]) (w1 := [(co, .inr (0, [.ref n, .ref eq, .ref co_place])), (n, .inr (2, [.int n_nodes, .ref n_kind, .ref n_pay, .ref n_name, .ref n_ways, .ref n_held, .ref n_targets, .ref n_weights])), (n_kind, .inl (g 0, 12, .inl n_fkind)), (n_pay, .inl (g 0, 12, .inl n_fpay)), (n_ways, .inl (g 0, 12, .inl n_fways)), (n_held, .inl (g 0, 12, .inl n_fheld)), (n_targets, .inl (g 0, 36, .inl n_ftargets)), (n_weights, .inl (g 0, 36, .inl n_fweights)), (co_place, .inl (g 0, 12, .inl opc_94349)), (eq, .inr (1, [.ref eq_rows, .ref eq_right, .long oew_94350])), (eq_right, .inl (g 1, 8, .inr (.inl ofr_94351))), (eq_rows, .inl (g 5, 8, .inr (.inr (.inr (.inr (fun i => if i < 8 then some (rr i) else none)))))), ((rr 0), .inl (g 1, 8, .inr (.inl (oct_94354 0)))), ((rr 1), .inl (g 1, 8, .inr (.inl (oct_94354 1)))), ((rr 2), .inl (g 1, 8, .inr (.inl (oct_94354 2)))), ((rr 3), .inl (g 1, 8, .inr (.inl (oct_94354 3)))), ((rr 4), .inl (g 1, 8, .inr (.inl (oct_94354 4)))), ((rr 5), .inl (g 1, 8, .inr (.inl (oct_94354 5)))), ((rr 6), .inl (g 1, 8, .inr (.inl (oct_94354 6)))), ((rr 7), .inl (g 1, 8, .inr (.inl (oct_94354 7)))), (pl, .inl (g 0, 12, .inl f_94338)), (vs, .inr (10, [.ref vs_part, .long ovw_94352])), (vs_part, .inl (g 1, 12, .inr (.inl ovp_94353)))]) hP hD [1, 2, 3, 4, 5, 6, 7, 8, 9, 10, 11, 12, 13, 14, 15, 16, 17, 18, 19, 20, 21, 22, 23] [0] rfl rfl (by decide) (by decide) hk1 hFc hP1 hD1
          generalize H1 = H at hP hS ⊢
          have hP : va_P D vwCl [(sv, .inr (6, [.ref n, .ref co, .ref sv_keep, .ref sv_scaled])), (co, .inr (0, [.ref n, .ref eq, .ref co_place])), (n, .inr (2, [.int n_nodes, .ref n_kind, .ref n_pay, .ref n_name, .ref n_ways, .ref n_held, .ref n_targets, .ref n_weights])), (n_kind, .inl (g 0, 12, .inl n_fkind)), (n_pay, .inl (g 0, 12, .inl n_fpay)), (n_ways, .inl (g 0, 12, .inl n_fways)), (n_held, .inl (g 0, 12, .inl n_fheld)), (n_targets, .inl (g 0, 36, .inl n_ftargets)), (n_weights, .inl (g 0, 36, .inl n_fweights)), (co_place, .inl (g 0, 12, .inl opc_94349)), (eq, .inr (1, [.ref eq_rows, .ref eq_right, .long oew_94350])), (eq_right, .inl (g 1, 8, .inr (.inl ofr_94351))), (eq_rows, .inl (g 5, 8, .inr (.inr (.inr (.inr (fun i => if i < 8 then some (rr i) else none)))))), ((rr 0), .inl (g 1, 8, .inr (.inl (oct_94354 0)))), ((rr 1), .inl (g 1, 8, .inr (.inl (oct_94354 1)))), ((rr 2), .inl (g 1, 8, .inr (.inl (oct_94354 2)))), ((rr 3), .inl (g 1, 8, .inr (.inl (oct_94354 3)))), ((rr 4), .inl (g 1, 8, .inr (.inl (oct_94354 4)))), ((rr 5), .inl (g 1, 8, .inr (.inl (oct_94354 5)))), ((rr 6), .inl (g 1, 8, .inr (.inl (oct_94354 6)))), ((rr 7), .inl (g 1, 8, .inr (.inl (oct_94354 7)))), (pl, .inl (g 0, 12, .inl f_94338)), (vs, .inr (10, [.ref vs_part, .long ovw_94352])), (vs_part, .inl (g 1, 12, .inr (.inl ovp_94353)))] H := hP
          have hD : va_D A [(sv, .inr (6, [.ref n, .ref co, .ref sv_keep, .ref sv_scaled])), (co, .inr (0, [.ref n, .ref eq, .ref co_place])), (n, .inr (2, [.int n_nodes, .ref n_kind, .ref n_pay, .ref n_name, .ref n_ways, .ref n_held, .ref n_targets, .ref n_weights])), (n_kind, .inl (g 0, 12, .inl n_fkind)), (n_pay, .inl (g 0, 12, .inl n_fpay)), (n_ways, .inl (g 0, 12, .inl n_fways)), (n_held, .inl (g 0, 12, .inl n_fheld)), (n_targets, .inl (g 0, 36, .inl n_ftargets)), (n_weights, .inl (g 0, 36, .inl n_fweights)), (co_place, .inl (g 0, 12, .inl opc_94349)), (eq, .inr (1, [.ref eq_rows, .ref eq_right, .long oew_94350])), (eq_right, .inl (g 1, 8, .inr (.inl ofr_94351))), (eq_rows, .inl (g 5, 8, .inr (.inr (.inr (.inr (fun i => if i < 8 then some (rr i) else none)))))), ((rr 0), .inl (g 1, 8, .inr (.inl (oct_94354 0)))), ((rr 1), .inl (g 1, 8, .inr (.inl (oct_94354 1)))), ((rr 2), .inl (g 1, 8, .inr (.inl (oct_94354 2)))), ((rr 3), .inl (g 1, 8, .inr (.inl (oct_94354 3)))), ((rr 4), .inl (g 1, 8, .inr (.inl (oct_94354 4)))), ((rr 5), .inl (g 1, 8, .inr (.inl (oct_94354 5)))), ((rr 6), .inl (g 1, 8, .inr (.inl (oct_94354 6)))), ((rr 7), .inl (g 1, 8, .inr (.inl (oct_94354 7)))), (pl, .inl (g 0, 12, .inl f_94338)), (vs, .inr (10, [.ref vs_part, .long ovw_94352])), (vs_part, .inl (g 1, 12, .inr (.inl ovp_94353)))] := hD
          refine lv_aload_n hx hb dX6_findLeft_40 rfl (lv_at hl 3 rfl) ?_
          refine lv_iconst (v := 2) hx hb dX6_findLeft_41 (by decide) ?_
          refine lv_aload_n hx hb dX6_findLeft_42 rfl (lv_at hl 4 rfl) ?_
          refine lv_aload hx hb dX6_findLeft_43 (lv_at hl 7 rfl) ?_
          refine lv_iload hx hb dX6_findLeft_45 (lv_at hl 2 rfl) ?_
          have hPc := hP.sub (ws' := [(sv, .inr (6, [.ref n, .ref co, .ref sv_keep, .ref sv_scaled])), (n, .inr (2, [.int n_nodes, .ref n_kind, .ref n_pay, .ref n_name, .ref n_ways, .ref n_held, .ref n_targets, .ref n_weights])), (n_kind, .inl (g 0, 12, .inl n_fkind)), (n_ways, .inl (g 0, 12, .inl n_fways)), (n_held, .inl (g 0, 12, .inl n_fheld)), (n_targets, .inl (g 0, 36, .inl n_ftargets)), (vs, .inr (10, [.ref vs_part, .long ovw_94352])), (vs_part, .inl (g 1, 12, .inr (.inl ovp_94353))), (pl, .inl (g 0, 12, .inl f_94338))]) [0, 2, 3, 5, 6, 7, 22, 23, 21] rfl
          have hDc := hD.sub (ws' := [(sv, .inr (6, [.ref n, .ref co, .ref sv_keep, .ref sv_scaled])), (n, .inr (2, [.int n_nodes, .ref n_kind, .ref n_pay, .ref n_name, .ref n_ways, .ref n_held, .ref n_targets, .ref n_weights])), (n_kind, .inl (g 0, 12, .inl n_fkind)), (n_ways, .inl (g 0, 12, .inl n_fways)), (n_held, .inl (g 0, 12, .inl n_fheld)), (n_targets, .inl (g 0, 36, .inl n_ftargets)), (vs, .inr (10, [.ref vs_part, .long ovw_94352])), (vs_part, .inl (g 1, 12, .inr (.inl ovp_94353))), (pl, .inl (g 0, 12, .inl f_94338))]) [0, 2, 3, 5, 6, 7, 22, 23, 21] (by decide) rfl
          have hFc := va_free (wc := [(sv, .inr (6, [.ref n, .ref co, .ref sv_keep, .ref sv_scaled])), (n, .inr (2, [.int n_nodes, .ref n_kind, .ref n_pay, .ref n_name, .ref n_ways, .ref n_held, .ref n_targets, .ref n_weights])), (n_kind, .inl (g 0, 12, .inl n_fkind)), (n_ways, .inl (g 0, 12, .inl n_fways)), (n_held, .inl (g 0, 12, .inl n_fheld)), (n_targets, .inl (g 0, 36, .inl n_ftargets)), (vs, .inr (10, [.ref vs_part, .long ovw_94352])), (vs_part, .inl (g 1, 12, .inr (.inl ovp_94353))), (pl, .inl (g 0, 12, .inl f_94338))]) hD hS hA [0, 2, 3, 5, 6, 7, 22, 23, 21] rfl
          refine va_calli (va_runV (As := [.int 2, .ref pl, .ref vs, .int r_93706]) (rest := []) ⟨hx, hb, hml, hown, hts⟩ (c_X6_turnOpen l D g H.size sv 2 pl vs r_93706 n co sv_keep sv_scaled n_nodes n_kind n_pay n_name n_ways n_held n_targets n_weights n_fkind n_fways n_fheld n_ftargets vs_part ovw_94352 ovp_94353 f_94338 (tr_w h_n_nodes (by decide) (by decide)) (tr_wa h_n_fkind (by decide) (by decide)) (tr_wa h_n_fways (by decide) (by decide)) (tr_wa h_n_fheld (by decide) (by decide)) (tr_wa h_n_ftargets (by decide) (by decide)) (tr_wa h_f_94338 (by decide) (by decide))) (cwV 4 hts (tz_gV qw_560 qw_561 qw_562 qw_558 qw_563) rfl rfl rfl (by decide +kernel) ⟨Nat.le_of_ble_eq_true rfl, Nat.le_of_ble_eq_true rfl⟩) ⟨tz_blQ, va_recv hK hPc (ci := 6) (q0 := 0) rfl rfl, tz_preQ hPc hK hDc⟩ rfl rfl hl.1 rfl (lv_room (Nat.le_of_ble_eq_true rfl)) dX6_findLeft_47 ⟨Nat.le_of_ble_eq_true rfl, Nat.le_of_ble_eq_true rfl⟩) hS (fun q _ h => hFc q h) hFc (fun r_94356 u t H1 locs ht hvm hw hB hz1 hk1 hS => ?_)
          obtain ⟨opl_94357, hf_94358, hP1, hD1⟩ := hB
          rw [ht] at hP1
          obtain ⟨hP, hD⟩ := va_join (wr := [(co, .inr (0, [.ref n, .ref eq, .ref co_place])), (n_pay, .inl (g 0, 12, .inl n_fpay)), (n_weights, .inl (g 0, 36, .inl n_fweights)), (co_place, .inl (g 0, 12, .inl opc_94349)), (eq, .inr (1, [.ref eq_rows, .ref eq_right, .long oew_94350])), (eq_right, .inl (g 1, 8, .inr (.inl ofr_94351))), (eq_rows, .inl (g 5, 8, .inr (.inr (.inr (.inr (fun i => if i < 8 then some (rr i) else none)))))), ((rr 0), .inl (g 1, 8, .inr (.inl (oct_94354 0)))), ((rr 1), .inl (g 1, 8, .inr (.inl (oct_94354 1)))), ((rr 2), .inl (g 1, 8, .inr (.inl (oct_94354 2)))), ((rr 3), .inl (g 1, 8, .inr (.inl (oct_94354 3)))), ((rr 4), .inl (g 1, 8, .inr (.inl (oct_94354 4)))), ((rr 5), .inl (g 1, 8, .inr (.inl (oct_94354 5)))), ((rr 6), .inl (g 1, 8, .inr (.inl (oct_94354 6)))), ((rr 7), .inl (g 1, 8, .inr (.inl (oct_94354 7))))]) (w1 := [(sv, .inr (6, [.ref n, .ref co, .ref sv_keep, .ref sv_scaled])), (n, .inr (2, [.int n_nodes, .ref n_kind, .ref n_pay, .ref n_name, .ref n_ways, .ref n_held, .ref n_targets, .ref n_weights])), (n_kind, .inl (g 0, 12, .inl n_fkind)), (n_ways, .inl (g 0, 12, .inl n_fways)), (n_held, .inl (g 0, 12, .inl n_fheld)), (n_targets, .inl (g 0, 36, .inl n_ftargets)), (vs, .inr (10, [.ref vs_part, .long ovw_94352])), (vs_part, .inl (g 1, 12, .inr (.inl ovp_94353))), (pl, .inl (g 0, 12, .inl opl_94357))]) hP hD [0, 2, 3, 5, 6, 7, 22, 23, 21] [1, 4, 8, 9, 10, 11, 12, 13, 14, 15, 16, 17, 18, 19, 20] rfl rfl (by decide) (by decide) hk1 hFc hP1 hD1
          generalize H1 = H at hP hS ⊢
          have hP : va_P D vwCl [(co, .inr (0, [.ref n, .ref eq, .ref co_place])), (n_pay, .inl (g 0, 12, .inl n_fpay)), (n_weights, .inl (g 0, 36, .inl n_fweights)), (co_place, .inl (g 0, 12, .inl opc_94349)), (eq, .inr (1, [.ref eq_rows, .ref eq_right, .long oew_94350])), (eq_right, .inl (g 1, 8, .inr (.inl ofr_94351))), (eq_rows, .inl (g 5, 8, .inr (.inr (.inr (.inr (fun i => if i < 8 then some (rr i) else none)))))), ((rr 0), .inl (g 1, 8, .inr (.inl (oct_94354 0)))), ((rr 1), .inl (g 1, 8, .inr (.inl (oct_94354 1)))), ((rr 2), .inl (g 1, 8, .inr (.inl (oct_94354 2)))), ((rr 3), .inl (g 1, 8, .inr (.inl (oct_94354 3)))), ((rr 4), .inl (g 1, 8, .inr (.inl (oct_94354 4)))), ((rr 5), .inl (g 1, 8, .inr (.inl (oct_94354 5)))), ((rr 6), .inl (g 1, 8, .inr (.inl (oct_94354 6)))), ((rr 7), .inl (g 1, 8, .inr (.inl (oct_94354 7)))), (sv, .inr (6, [.ref n, .ref co, .ref sv_keep, .ref sv_scaled])), (n, .inr (2, [.int n_nodes, .ref n_kind, .ref n_pay, .ref n_name, .ref n_ways, .ref n_held, .ref n_targets, .ref n_weights])), (n_kind, .inl (g 0, 12, .inl n_fkind)), (n_ways, .inl (g 0, 12, .inl n_fways)), (n_held, .inl (g 0, 12, .inl n_fheld)), (n_targets, .inl (g 0, 36, .inl n_ftargets)), (vs, .inr (10, [.ref vs_part, .long ovw_94352])), (vs_part, .inl (g 1, 12, .inr (.inl ovp_94353))), (pl, .inl (g 0, 12, .inl opl_94357))] H := hP
          have hD : va_D A [(co, .inr (0, [.ref n, .ref eq, .ref co_place])), (n_pay, .inl (g 0, 12, .inl n_fpay)), (n_weights, .inl (g 0, 36, .inl n_fweights)), (co_place, .inl (g 0, 12, .inl opc_94349)), (eq, .inr (1, [.ref eq_rows, .ref eq_right, .long oew_94350])), (eq_right, .inl (g 1, 8, .inr (.inl ofr_94351))), (eq_rows, .inl (g 5, 8, .inr (.inr (.inr (.inr (fun i => if i < 8 then some (rr i) else none)))))), ((rr 0), .inl (g 1, 8, .inr (.inl (oct_94354 0)))), ((rr 1), .inl (g 1, 8, .inr (.inl (oct_94354 1)))), ((rr 2), .inl (g 1, 8, .inr (.inl (oct_94354 2)))), ((rr 3), .inl (g 1, 8, .inr (.inl (oct_94354 3)))), ((rr 4), .inl (g 1, 8, .inr (.inl (oct_94354 4)))), ((rr 5), .inl (g 1, 8, .inr (.inl (oct_94354 5)))), ((rr 6), .inl (g 1, 8, .inr (.inl (oct_94354 6)))), ((rr 7), .inl (g 1, 8, .inr (.inl (oct_94354 7)))), (sv, .inr (6, [.ref n, .ref co, .ref sv_keep, .ref sv_scaled])), (n, .inr (2, [.int n_nodes, .ref n_kind, .ref n_pay, .ref n_name, .ref n_ways, .ref n_held, .ref n_targets, .ref n_weights])), (n_kind, .inl (g 0, 12, .inl n_fkind)), (n_ways, .inl (g 0, 12, .inl n_fways)), (n_held, .inl (g 0, 12, .inl n_fheld)), (n_targets, .inl (g 0, 36, .inl n_ftargets)), (vs, .inr (10, [.ref vs_part, .long ovw_94352])), (vs_part, .inl (g 1, 12, .inr (.inl ovp_94353))), (pl, .inl (g 0, 12, .inl opl_94357))] := hD
          refine lv_if_le (tgt := 57) hx hb dX6_findLeft_50 (by decide) (fun c_94359 => ?_) (fun c_94359 => ?_)
          · skip
            have c_94359_i := Int32.le_iff_toInt_le.mp c_94359
            have h_94360 : (-2147483648) ≤ (r_94356 : Int32).toInt ∧ (r_94356 : Int32).toInt ≤ 0 := by have q1 := tr_any r_94356; have q2 := (⟨by decide, by decide⟩ : 0 ≤ (0 : Int32).toInt ∧ (0 : Int32).toInt ≤ 0); omega
            refine lv_iconst (v := 0) hx hb dX6_findLeft_57 (by decide) ?_
            refine lv_istore (lv' := [(6, .int 0), (7, .int x_94333), (5, .int r_93706), (0, .ref sv), (1, .ref pl), (2, .int p0), (3, .int p1), (4, .ref vs)]) hx hb dX6_findLeft_58 hl (by decide) rfl (fun ls hl => ?_)
            obtain ⟨v_94362, v_94362_e⟩ : ∃ y : Int32, y = x_94333 + Int32.ofInt 1 := ⟨_, rfl⟩
            have h_v_94362 : 1 ≤ (v_94362 : Int32).toInt ∧ (v_94362 : Int32).toInt ≤ 6561 := by rw [v_94362_e]; exact tr_add h_94347 (⟨by decide, by decide⟩ : 1 ≤ (Int32.ofInt 1 : Int32).toInt ∧ (Int32.ofInt 1 : Int32).toInt ≤ 1) (by decide) (by decide) (by decide) (by decide)
            have q_v_94362 : v_94362.toInt = x_94333.toInt + 1 := by rw [v_94362_e]; exact tr_addE h_94347 (⟨by decide, by decide⟩ : 1 ≤ (Int32.ofInt 1 : Int32).toInt ∧ (Int32.ofInt 1 : Int32).toInt ≤ 1) (by decide) (by decide)
            refine lv_iinc (v := v_94362) (lv' := [(7, .int v_94362), (6, .int 0), (5, .int r_93706), (0, .ref sv), (1, .ref pl), (2, .int p0), (3, .int p1), (4, .ref vs)]) hx hb dX6_findLeft_60 hl (k := 1) rfl v_94362_e.symm (by decide) rfl (fun ls hl => ?_)
            refine lv_goto (tgt := 13) hx hb dX6_findLeft_63 (by decide) ?_
            exact ih_94341 oct_94354 v_94362 0 opc_94349 oew_94350 ofr_94351 opl_94357 ovw_94352 ovp_94353 H _ ls (tr_w h_v_94362 (by decide) (by decide)) (⟨by decide, by decide⟩ : 0 ≤ (0 : Int32).toInt ∧ (0 : Int32).toInt ≤ 1) (tr_wa hf_94355 (by decide) (by decide)) (tr_wa hf_94358 (by decide) (by decide)) (by omega) (hP.sub [15, 0, 16, 17, 1, 18, 19, 20, 2, 3, 4, 5, 6, 7, 8, 9, 10, 11, 12, 13, 14, 23, 21, 22] rfl) (hD.sub [15, 0, 16, 17, 1, 18, 19, 20, 2, 3, 4, 5, 6, 7, 8, 9, 10, 11, 12, 13, 14, 23, 21, 22] (by decide) rfl) hS (lv_sub hl [0, 1, 2, 3, 4, 5, 6, 7] rfl)
          · skip
            have c_94359_i := Int32.lt_iff_toInt_lt.mp (Int32.not_le.mp c_94359)
            have h_94361 : 1 ≤ (r_94356 : Int32).toInt ∧ (r_94356 : Int32).toInt ≤ 2147483647 := by have q1 := tr_any r_94356; have q2 := (⟨by decide, by decide⟩ : 0 ≤ (0 : Int32).toInt ∧ (0 : Int32).toInt ≤ 0); omega
            refine lv_iconst (v := 1) hx hb dX6_findLeft_53 (by decide) ?_
            refine lv_goto (tgt := 58) hx hb dX6_findLeft_54 (by decide) ?_
            refine lv_istore (lv' := [(6, .int 1), (7, .int x_94333), (5, .int r_93706), (0, .ref sv), (1, .ref pl), (2, .int p0), (3, .int p1), (4, .ref vs)]) hx hb dX6_findLeft_58 hl (by decide) rfl (fun ls hl => ?_)
            obtain ⟨v_94363, v_94363_e⟩ : ∃ y : Int32, y = x_94333 + Int32.ofInt 1 := ⟨_, rfl⟩
            have h_v_94363 : 1 ≤ (v_94363 : Int32).toInt ∧ (v_94363 : Int32).toInt ≤ 6561 := by rw [v_94363_e]; exact tr_add h_94347 (⟨by decide, by decide⟩ : 1 ≤ (Int32.ofInt 1 : Int32).toInt ∧ (Int32.ofInt 1 : Int32).toInt ≤ 1) (by decide) (by decide) (by decide) (by decide)
            have q_v_94363 : v_94363.toInt = x_94333.toInt + 1 := by rw [v_94363_e]; exact tr_addE h_94347 (⟨by decide, by decide⟩ : 1 ≤ (Int32.ofInt 1 : Int32).toInt ∧ (Int32.ofInt 1 : Int32).toInt ≤ 1) (by decide) (by decide)
            refine lv_iinc (v := v_94363) (lv' := [(7, .int v_94363), (6, .int 1), (5, .int r_93706), (0, .ref sv), (1, .ref pl), (2, .int p0), (3, .int p1), (4, .ref vs)]) hx hb dX6_findLeft_60 hl (k := 1) rfl v_94363_e.symm (by decide) rfl (fun ls hl => ?_)
            refine lv_goto (tgt := 13) hx hb dX6_findLeft_63 (by decide) ?_
            exact ih_94341 oct_94354 v_94363 1 opc_94349 oew_94350 ofr_94351 opl_94357 ovw_94352 ovp_94353 H _ ls (tr_w h_v_94363 (by decide) (by decide)) (⟨by decide, by decide⟩ : 0 ≤ (1 : Int32).toInt ∧ (1 : Int32).toInt ≤ 1) (tr_wa hf_94355 (by decide) (by decide)) (tr_wa hf_94358 (by decide) (by decide)) (by omega) (hP.sub [15, 0, 16, 17, 1, 18, 19, 20, 2, 3, 4, 5, 6, 7, 8, 9, 10, 11, 12, 13, 14, 23, 21, 22] rfl) (hD.sub [15, 0, 16, 17, 1, 18, 19, 20, 2, 3, 4, 5, 6, 7, 8, 9, 10, 11, 12, 13, 14, 23, 21, 22] (by decide) rfl) hS (lv_sub hl [0, 1, 2, 3, 4, 5, 6, 7] rfl)
  exact lp_94341 2147483648 ct 0 1 pcf ew fr plf vsw vsp s.heap _ ls (⟨by decide, by decide⟩ : 0 ≤ (0 : Int32).toInt ∧ (0 : Int32).toInt ≤ 2147483647) (⟨by decide, by decide⟩ : 0 ≤ (1 : Int32).toInt ∧ (1 : Int32).toInt ≤ 1) (tr_wa h_pcf (by decide) (by decide)) (tr_wa h_plf (by decide) (by decide)) (by decide) (hP.sub [0, 1, 2, 3, 4, 5, 6, 7, 8, 9, 10, 11, 12, 13, 14, 15, 16, 17, 18, 19, 20, 21, 22, 23] rfl) (hD.sub [0, 1, 2, 3, 4, 5, 6, 7, 8, 9, 10, 11, 12, 13, 14, 15, 16, 17, 18, 19, 20, 21, 22, 23] (by decide) rfl) hS (lv_sub hl [0, 1, 2, 3, 4, 5, 6, 7] rfl)
set_option maxHeartbeats 4000000 in
set_option maxRecDepth 100000 in
theorem c_X6_findWorth (l : Launch) (D : va_G) (g : Nat → ClassId) (sz : Nat) (sv : Nat) (pl : Nat) (p0 : Int32) (p1 : Int32) (vs : Nat) (n : Nat) (co : Nat) (sv_keep : Nat) (sv_scaled : Nat) (eq : Nat) (co_place : Nat) (n_nodes : Int32) (n_kind : Nat) (n_pay : Nat) (n_name : Nat) (n_ways : Nat) (n_held : Nat) (n_targets : Nat) (n_weights : Nat) (n_fkind : Nat → Int32) (n_fpay : Nat → Int32) (n_fways : Nat → Int32) (n_fheld : Nat → Int32) (n_ftargets : Nat → Int32) (n_fweights : Nat → Int32) (pcf : Nat → Int32) (eq_rows : Nat) (eq_right : Nat) (ew : Int64) (fr : Nat → Int64) (rr : Nat → Nat) (ct : Nat → Nat → Int64) (plf : Nat → Int32) (vs_part : Nat) (vsw : Int64) (vsp : Nat → Int64) (h_n_nodes : 0 ≤ (n_nodes : Int32).toInt ∧ (n_nodes : Int32).toInt ≤ 12) (h_n_fkind : ∀ j : Nat, 0 ≤ (n_fkind j).toInt ∧ (n_fkind j).toInt ≤ 3) (h_n_fways : ∀ j : Nat, 0 ≤ (n_fways j).toInt ∧ (n_fways j).toInt ≤ 3) (h_n_fheld : ∀ j : Nat, (-1) ≤ (n_fheld j).toInt ∧ (n_fheld j).toInt ≤ 2) (h_n_ftargets : ∀ j : Nat, 0 ≤ (n_ftargets j).toInt ∧ (n_ftargets j).toInt ≤ 11) (h_pcf : ∀ j : Nat, (-1) ≤ (pcf j).toInt ∧ (pcf j).toInt ≤ 7) (h_plf : ∀ j : Nat, 0 ≤ (plf j).toInt ∧ (plf j).toInt ≤ 2) : Met l yX6_findWorth (.code yX6_findWorth cX6_findWorth 7 none :: wsL_law) ({ frames := 5, cells := 0, slots := 0, locals := 132 }) (va_Pc [.ref sv, .ref pl, .int p0, .int p1, .ref vs] (fun U => U.heap.size = sz ∧ va_P D vwCl [(sv, .inr (6, [.ref n, .ref co, .ref sv_keep, .ref sv_scaled])), (co, .inr (0, [.ref n, .ref eq, .ref co_place])), (n, .inr (2, [.int n_nodes, .ref n_kind, .ref n_pay, .ref n_name, .ref n_ways, .ref n_held, .ref n_targets, .ref n_weights])), (n_kind, .inl (g 0, 12, .inl n_fkind)), (n_pay, .inl (g 0, 12, .inl n_fpay)), (n_ways, .inl (g 0, 12, .inl n_fways)), (n_held, .inl (g 0, 12, .inl n_fheld)), (n_targets, .inl (g 0, 36, .inl n_ftargets)), (n_weights, .inl (g 0, 36, .inl n_fweights)), (co_place, .inl (g 0, 12, .inl pcf)), (eq, .inr (1, [.ref eq_rows, .ref eq_right, .long ew])), (eq_right, .inl (g 1, 8, .inr (.inl fr))), (eq_rows, .inl (g 5, 8, .inr (.inr (.inr (.inr (fun i => if i < 8 then some (rr i) else none)))))), ((rr 0), .inl (g 1, 8, .inr (.inl (ct 0)))), ((rr 1), .inl (g 1, 8, .inr (.inl (ct 1)))), ((rr 2), .inl (g 1, 8, .inr (.inl (ct 2)))), ((rr 3), .inl (g 1, 8, .inr (.inl (ct 3)))), ((rr 4), .inl (g 1, 8, .inr (.inl (ct 4)))), ((rr 5), .inl (g 1, 8, .inr (.inl (ct 5)))), ((rr 6), .inl (g 1, 8, .inr (.inl (ct 6)))), ((rr 7), .inl (g 1, 8, .inr (.inl (ct 7)))), (pl, .inl (g 0, 12, .inl plf)), (vs, .inr (10, [.ref vs_part, .long vsw])), (vs_part, .inl (g 1, 12, .inr (.inl vsp)))] U.heap ∧ va_K D vwCl (TY g) U ∧ va_D (fun _ => True) [(sv, .inr (6, [.ref n, .ref co, .ref sv_keep, .ref sv_scaled])), (co, .inr (0, [.ref n, .ref eq, .ref co_place])), (n, .inr (2, [.int n_nodes, .ref n_kind, .ref n_pay, .ref n_name, .ref n_ways, .ref n_held, .ref n_targets, .ref n_weights])), (n_kind, .inl (g 0, 12, .inl n_fkind)), (n_pay, .inl (g 0, 12, .inl n_fpay)), (n_ways, .inl (g 0, 12, .inl n_fways)), (n_held, .inl (g 0, 12, .inl n_fheld)), (n_targets, .inl (g 0, 36, .inl n_ftargets)), (n_weights, .inl (g 0, 36, .inl n_fweights)), (co_place, .inl (g 0, 12, .inl pcf)), (eq, .inr (1, [.ref eq_rows, .ref eq_right, .long ew])), (eq_right, .inl (g 1, 8, .inr (.inl fr))), (eq_rows, .inl (g 5, 8, .inr (.inr (.inr (.inr (fun i => if i < 8 then some (rr i) else none)))))), ((rr 0), .inl (g 1, 8, .inr (.inl (ct 0)))), ((rr 1), .inl (g 1, 8, .inr (.inl (ct 1)))), ((rr 2), .inl (g 1, 8, .inr (.inl (ct 2)))), ((rr 3), .inl (g 1, 8, .inr (.inl (ct 3)))), ((rr 4), .inl (g 1, 8, .inr (.inl (ct 4)))), ((rr 5), .inl (g 1, 8, .inr (.inl (ct 5)))), ((rr 6), .inl (g 1, 8, .inr (.inl (ct 6)))), ((rr 7), .inl (g 1, 8, .inr (.inl (ct 7)))), (pl, .inl (g 0, 12, .inl plf)), (vs, .inr (10, [.ref vs_part, .long vsw])), (vs_part, .inl (g 1, 12, .inr (.inl vsp)))])) (va_Qv (fun (_ : Unit) => True) (fun _ t => ∃ opc : Nat → Int32, ∃ oew : Int64, ∃ ofr : Nat → Int64, ∃ opl : Nat → Int32, ∃ ovw : Int64, ∃ ovp : Nat → Int64, ∃ oct : Nat → Nat → Int64, (∀ j : Nat, (-1) ≤ (opc j).toInt ∧ (opc j).toInt ≤ 7) ∧ (∀ j : Nat, 0 ≤ (opl j).toInt ∧ (opl j).toInt ≤ 2) ∧ va_P D vwCl [(sv, .inr (6, [.ref n, .ref co, .ref sv_keep, .ref sv_scaled])), (co, .inr (0, [.ref n, .ref eq, .ref co_place])), (n, .inr (2, [.int n_nodes, .ref n_kind, .ref n_pay, .ref n_name, .ref n_ways, .ref n_held, .ref n_targets, .ref n_weights])), (n_kind, .inl (g 0, 12, .inl n_fkind)), (n_pay, .inl (g 0, 12, .inl n_fpay)), (n_ways, .inl (g 0, 12, .inl n_fways)), (n_held, .inl (g 0, 12, .inl n_fheld)), (n_targets, .inl (g 0, 36, .inl n_ftargets)), (n_weights, .inl (g 0, 36, .inl n_fweights)), (co_place, .inl (g 0, 12, .inl opc)), (eq, .inr (1, [.ref eq_rows, .ref eq_right, .long oew])), (eq_right, .inl (g 1, 8, .inr (.inl ofr))), (eq_rows, .inl (g 5, 8, .inr (.inr (.inr (.inr (fun i => if i < 8 then some (rr i) else none)))))), ((rr 0), .inl (g 1, 8, .inr (.inl (oct 0)))), ((rr 1), .inl (g 1, 8, .inr (.inl (oct 1)))), ((rr 2), .inl (g 1, 8, .inr (.inl (oct 2)))), ((rr 3), .inl (g 1, 8, .inr (.inl (oct 3)))), ((rr 4), .inl (g 1, 8, .inr (.inl (oct 4)))), ((rr 5), .inl (g 1, 8, .inr (.inl (oct 5)))), ((rr 6), .inl (g 1, 8, .inr (.inl (oct 6)))), ((rr 7), .inl (g 1, 8, .inr (.inl (oct 7)))), (pl, .inl (g 0, 12, .inl opl)), (vs, .inr (10, [.ref vs_part, .long ovw])), (vs_part, .inl (g 1, 12, .inr (.inl ovp)))] t.heap ∧ va_D (va_A [(sv, .inr (6, [.ref n, .ref co, .ref sv_keep, .ref sv_scaled])), (co, .inr (0, [.ref n, .ref eq, .ref co_place])), (n, .inr (2, [.int n_nodes, .ref n_kind, .ref n_pay, .ref n_name, .ref n_ways, .ref n_held, .ref n_targets, .ref n_weights])), (n_kind, .inl (g 0, 12, .inl n_fkind)), (n_pay, .inl (g 0, 12, .inl n_fpay)), (n_ways, .inl (g 0, 12, .inl n_fways)), (n_held, .inl (g 0, 12, .inl n_fheld)), (n_targets, .inl (g 0, 36, .inl n_ftargets)), (n_weights, .inl (g 0, 36, .inl n_fweights)), (co_place, .inl (g 0, 12, .inl pcf)), (eq, .inr (1, [.ref eq_rows, .ref eq_right, .long ew])), (eq_right, .inl (g 1, 8, .inr (.inl fr))), (eq_rows, .inl (g 5, 8, .inr (.inr (.inr (.inr (fun i => if i < 8 then some (rr i) else none)))))), ((rr 0), .inl (g 1, 8, .inr (.inl (ct 0)))), ((rr 1), .inl (g 1, 8, .inr (.inl (ct 1)))), ((rr 2), .inl (g 1, 8, .inr (.inl (ct 2)))), ((rr 3), .inl (g 1, 8, .inr (.inl (ct 3)))), ((rr 4), .inl (g 1, 8, .inr (.inl (ct 4)))), ((rr 5), .inl (g 1, 8, .inr (.inl (ct 5)))), ((rr 6), .inl (g 1, 8, .inr (.inl (ct 6)))), ((rr 7), .inl (g 1, 8, .inr (.inl (ct 7)))), (pl, .inl (g 0, 12, .inl plf)), (vs, .inr (10, [.ref vs_part, .long vsw])), (vs_part, .inl (g 1, 12, .inr (.inl vsp)))] sz) [(sv, .inr (6, [.ref n, .ref co, .ref sv_keep, .ref sv_scaled])), (co, .inr (0, [.ref n, .ref eq, .ref co_place])), (n, .inr (2, [.int n_nodes, .ref n_kind, .ref n_pay, .ref n_name, .ref n_ways, .ref n_held, .ref n_targets, .ref n_weights])), (n_kind, .inl (g 0, 12, .inl n_fkind)), (n_pay, .inl (g 0, 12, .inl n_fpay)), (n_ways, .inl (g 0, 12, .inl n_fways)), (n_held, .inl (g 0, 12, .inl n_fheld)), (n_targets, .inl (g 0, 36, .inl n_ftargets)), (n_weights, .inl (g 0, 36, .inl n_fweights)), (co_place, .inl (g 0, 12, .inl opc)), (eq, .inr (1, [.ref eq_rows, .ref eq_right, .long oew])), (eq_right, .inl (g 1, 8, .inr (.inl ofr))), (eq_rows, .inl (g 5, 8, .inr (.inr (.inr (.inr (fun i => if i < 8 then some (rr i) else none)))))), ((rr 0), .inl (g 1, 8, .inr (.inl (oct 0)))), ((rr 1), .inl (g 1, 8, .inr (.inl (oct 1)))), ((rr 2), .inl (g 1, 8, .inr (.inl (oct 2)))), ((rr 3), .inl (g 1, 8, .inr (.inl (oct 3)))), ((rr 4), .inl (g 1, 8, .inr (.inl (oct 4)))), ((rr 5), .inl (g 1, 8, .inr (.inl (oct 5)))), ((rr 6), .inl (g 1, 8, .inr (.inl (oct 6)))), ((rr 7), .inl (g 1, 8, .inr (.inl (oct 7)))), (pl, .inl (g 0, 12, .inl opl)), (vs, .inr (10, [.ref vs_part, .long ovw])), (vs_part, .inl (g 1, 12, .inr (.inl ovp)))]) (va_A [(sv, .inr (6, [.ref n, .ref co, .ref sv_keep, .ref sv_scaled])), (co, .inr (0, [.ref n, .ref eq, .ref co_place])), (n, .inr (2, [.int n_nodes, .ref n_kind, .ref n_pay, .ref n_name, .ref n_ways, .ref n_held, .ref n_targets, .ref n_weights])), (n_kind, .inl (g 0, 12, .inl n_fkind)), (n_pay, .inl (g 0, 12, .inl n_fpay)), (n_ways, .inl (g 0, 12, .inl n_fways)), (n_held, .inl (g 0, 12, .inl n_fheld)), (n_targets, .inl (g 0, 36, .inl n_ftargets)), (n_weights, .inl (g 0, 36, .inl n_fweights)), (co_place, .inl (g 0, 12, .inl pcf)), (eq, .inr (1, [.ref eq_rows, .ref eq_right, .long ew])), (eq_right, .inl (g 1, 8, .inr (.inl fr))), (eq_rows, .inl (g 5, 8, .inr (.inr (.inr (.inr (fun i => if i < 8 then some (rr i) else none)))))), ((rr 0), .inl (g 1, 8, .inr (.inl (ct 0)))), ((rr 1), .inl (g 1, 8, .inr (.inl (ct 1)))), ((rr 2), .inl (g 1, 8, .inr (.inl (ct 2)))), ((rr 3), .inl (g 1, 8, .inr (.inl (ct 3)))), ((rr 4), .inl (g 1, 8, .inr (.inl (ct 4)))), ((rr 5), .inl (g 1, 8, .inr (.inl (ct 5)))), ((rr 6), .inl (g 1, 8, .inr (.inl (ct 6)))), ((rr 7), .inl (g 1, 8, .inr (.inl (ct 7)))), (pl, .inl (g 0, 12, .inl plf)), (vs, .inr (10, [.ref vs_part, .long vsw])), (vs_part, .inl (g 1, 12, .inr (.inl vsp)))] sz)) 0 0 (va_A [(sv, .inr (6, [.ref n, .ref co, .ref sv_keep, .ref sv_scaled])), (co, .inr (0, [.ref n, .ref eq, .ref co_place])), (n, .inr (2, [.int n_nodes, .ref n_kind, .ref n_pay, .ref n_name, .ref n_ways, .ref n_held, .ref n_targets, .ref n_weights])), (n_kind, .inl (g 0, 12, .inl n_fkind)), (n_pay, .inl (g 0, 12, .inl n_fpay)), (n_ways, .inl (g 0, 12, .inl n_fways)), (n_held, .inl (g 0, 12, .inl n_fheld)), (n_targets, .inl (g 0, 36, .inl n_ftargets)), (n_weights, .inl (g 0, 36, .inl n_fweights)), (co_place, .inl (g 0, 12, .inl pcf)), (eq, .inr (1, [.ref eq_rows, .ref eq_right, .long ew])), (eq_right, .inl (g 1, 8, .inr (.inl fr))), (eq_rows, .inl (g 5, 8, .inr (.inr (.inr (.inr (fun i => if i < 8 then some (rr i) else none)))))), ((rr 0), .inl (g 1, 8, .inr (.inl (ct 0)))), ((rr 1), .inl (g 1, 8, .inr (.inl (ct 1)))), ((rr 2), .inl (g 1, 8, .inr (.inl (ct 2)))), ((rr 3), .inl (g 1, 8, .inr (.inl (ct 3)))), ((rr 4), .inl (g 1, 8, .inr (.inl (ct 4)))), ((rr 5), .inl (g 1, 8, .inr (.inl (ct 5)))), ((rr 6), .inl (g 1, 8, .inr (.inl (ct 6)))), ((rr 7), .inl (g 1, 8, .inr (.inl (ct 7)))), (pl, .inl (g 0, 12, .inl plf)), (vs, .inr (10, [.ref vs_part, .long vsw])), (vs_part, .inl (g 1, 12, .inr (.inl vsp)))] sz) := by
  refine Met.ofW (cc := cX6_findWorth) (maxL := 7) (ret := none) (by decide) rfl ?_
  intro p e s m args below meth c s₁ B hml hv
  obtain ⟨ha, hsz, hP, hK, hD0⟩ := hv
  have hx := B.exec
  have hb := B.bytes
  have hr := B.returns
  have hts0 := atoms_spec (ws := (.code yX6_findWorth cX6_findWorth 7 none :: wsL_law)) B.pre
  have hts : ∀ w ∈ wsL_law, w.before args s = true := fun w h => hts0 w (List.mem_cons_of_mem _ h)
  have hown : s.vm.findClass RX6 = some m.cls := findClass_of_methodNamed B.named
  have hlocks := B.notSynchronized
  subst hsz
  have hD := hD0.self (sz := s.heap.size)
  generalize hAe : va_A [(sv, .inr (6, [.ref n, .ref co, .ref sv_keep, .ref sv_scaled])), (co, .inr (0, [.ref n, .ref eq, .ref co_place])), (n, .inr (2, [.int n_nodes, .ref n_kind, .ref n_pay, .ref n_name, .ref n_ways, .ref n_held, .ref n_targets, .ref n_weights])), (n_kind, .inl (g 0, 12, .inl n_fkind)), (n_pay, .inl (g 0, 12, .inl n_fpay)), (n_ways, .inl (g 0, 12, .inl n_fways)), (n_held, .inl (g 0, 12, .inl n_fheld)), (n_targets, .inl (g 0, 36, .inl n_ftargets)), (n_weights, .inl (g 0, 36, .inl n_fweights)), (co_place, .inl (g 0, 12, .inl pcf)), (eq, .inr (1, [.ref eq_rows, .ref eq_right, .long ew])), (eq_right, .inl (g 1, 8, .inr (.inl fr))), (eq_rows, .inl (g 5, 8, .inr (.inr (.inr (.inr (fun i => if i < 8 then some (rr i) else none)))))), ((rr 0), .inl (g 1, 8, .inr (.inl (ct 0)))), ((rr 1), .inl (g 1, 8, .inr (.inl (ct 1)))), ((rr 2), .inl (g 1, 8, .inr (.inl (ct 2)))), ((rr 3), .inl (g 1, 8, .inr (.inl (ct 3)))), ((rr 4), .inl (g 1, 8, .inr (.inl (ct 4)))), ((rr 5), .inl (g 1, 8, .inr (.inl (ct 5)))), ((rr 6), .inl (g 1, 8, .inr (.inl (ct 6)))), ((rr 7), .inl (g 1, 8, .inr (.inl (ct 7)))), (pl, .inl (g 0, 12, .inl plf)), (vs, .inr (10, [.ref vs_part, .long vsw])), (vs_part, .inl (g 1, 12, .inr (.inl vsp)))] s.heap.size = A at hD ⊢
  have hA : ∀ q : Nat, s.heap.size ≤ q → A q := fun q h => by rw [← hAe]; exact Or.inr h
  have hS : va_S A s.heap s.heap [] := va_S.rf
  have hP : va_P D vwCl [(sv, .inr (6, [.ref n, .ref co, .ref sv_keep, .ref sv_scaled])), (co, .inr (0, [.ref n, .ref eq, .ref co_place])), (n, .inr (2, [.int n_nodes, .ref n_kind, .ref n_pay, .ref n_name, .ref n_ways, .ref n_held, .ref n_targets, .ref n_weights])), (n_kind, .inl (g 0, 12, .inl n_fkind)), (n_pay, .inl (g 0, 12, .inl n_fpay)), (n_ways, .inl (g 0, 12, .inl n_fways)), (n_held, .inl (g 0, 12, .inl n_fheld)), (n_targets, .inl (g 0, 36, .inl n_ftargets)), (n_weights, .inl (g 0, 36, .inl n_fweights)), (co_place, .inl (g 0, 12, .inl pcf)), (eq, .inr (1, [.ref eq_rows, .ref eq_right, .long ew])), (eq_right, .inl (g 1, 8, .inr (.inl fr))), (eq_rows, .inl (g 5, 8, .inr (.inr (.inr (.inr (fun i => if i < 8 then some (rr i) else none)))))), ((rr 0), .inl (g 1, 8, .inr (.inl (ct 0)))), ((rr 1), .inl (g 1, 8, .inr (.inl (ct 1)))), ((rr 2), .inl (g 1, 8, .inr (.inl (ct 2)))), ((rr 3), .inl (g 1, 8, .inr (.inl (ct 3)))), ((rr 4), .inl (g 1, 8, .inr (.inl (ct 4)))), ((rr 5), .inl (g 1, 8, .inr (.inl (ct 5)))), ((rr 6), .inl (g 1, 8, .inr (.inl (ct 6)))), ((rr 7), .inl (g 1, 8, .inr (.inl (ct 7)))), (pl, .inl (g 0, 12, .inl plf)), (vs, .inr (10, [.ref vs_part, .long vsw])), (vs_part, .inl (g 1, 12, .inr (.inl vsp)))] s.heap := hP
  refine W.eq (g2 := entryFrame m ([.ref sv, .ref pl, .int p0, .int p1, .ref vs] : List Value).toArray 7) (by rw [ha]) ?_
  have hl := lv_entry ([.ref sv, .ref pl, .int p0, .int p1, .ref vs]) (n := 7) (Nat.le_of_ble_eq_true rfl)
  rw [lg_entry_eq]
  generalize (lg_sl ([.ref sv, .ref pl, .int p0, .int p1, .ref vs]) ++ List.replicate (7 - (lg_sl ([.ref sv, .ref pl, .int p0, .int p1, .ref vs])).length) Slot.unset).toArray = ls at hl ⊢
  have hl : lv_has ls 7 [(0, .ref sv), (1, .ref pl), (2, .int p0), (3, .int p1), (4, .ref vs)] := hl
  refine lv_iconst (v := 1) hx hb dX6_findWorth_0 (by decide) ?_
  refine lv_istore (lv' := [(5, .int 1), (0, .ref sv), (1, .ref pl), (2, .int p0), (3, .int p1), (4, .ref vs)]) hx hb dX6_findWorth_1 hl (by decide) rfl (fun ls hl => ?_)
  refine lv_iconst (v := 0) hx hb dX6_findWorth_3 (by decide) ?_
  refine lv_istore (lv' := [(6, .int 0), (5, .int 1), (0, .ref sv), (1, .ref pl), (2, .int p0), (3, .int p1), (4, .ref vs)]) hx hb dX6_findWorth_4 hl (by decide) rfl (fun ls hl => ?_)
  have lp_95042 : ∀ (n_95042 : Nat) (ct_95033 : Nat → Nat → Int64) (x_95034 : Int32) (x_95035 : Int32) (f_95036 : Nat → Int32) (x_95037 : Int64) (f_95038 : Nat → Int64) (f_95039 : Nat → Int32) (x_95040 : Int64) (f_95041 : Nat → Int64) (H : Heap) (locs : List Loc) (ls : Array Slot), (0 ≤ (x_95034 : Int32).toInt ∧ (x_95034 : Int32).toInt ≤ 2147483647) → (0 ≤ (x_95035 : Int32).toInt ∧ (x_95035 : Int32).toInt ≤ 1) → (∀ j : Nat, (-1) ≤ (f_95036 j).toInt ∧ (f_95036 j).toInt ≤ 7) → (∀ j : Nat, 0 ≤ (f_95039 j).toInt ∧ (f_95039 j).toInt ≤ 2) → (2147483647 - x_95034.toInt < (n_95042 : Int)) → va_P D vwCl [(sv, .inr (6, [.ref n, .ref co, .ref sv_keep, .ref sv_scaled])), (co, .inr (0, [.ref n, .ref eq, .ref co_place])), (n, .inr (2, [.int n_nodes, .ref n_kind, .ref n_pay, .ref n_name, .ref n_ways, .ref n_held, .ref n_targets, .ref n_weights])), (n_kind, .inl (g 0, 12, .inl n_fkind)), (n_pay, .inl (g 0, 12, .inl n_fpay)), (n_ways, .inl (g 0, 12, .inl n_fways)), (n_held, .inl (g 0, 12, .inl n_fheld)), (n_targets, .inl (g 0, 36, .inl n_ftargets)), (n_weights, .inl (g 0, 36, .inl n_fweights)), (co_place, .inl (g 0, 12, .inl f_95036)), (eq, .inr (1, [.ref eq_rows, .ref eq_right, .long x_95037])), (eq_right, .inl (g 1, 8, .inr (.inl f_95038))), (eq_rows, .inl (g 5, 8, .inr (.inr (.inr (.inr (fun i => if i < 8 then some (rr i) else none)))))), ((rr 0), .inl (g 1, 8, .inr (.inl (ct_95033 0)))), ((rr 1), .inl (g 1, 8, .inr (.inl (ct_95033 1)))), ((rr 2), .inl (g 1, 8, .inr (.inl (ct_95033 2)))), ((rr 3), .inl (g 1, 8, .inr (.inl (ct_95033 3)))), ((rr 4), .inl (g 1, 8, .inr (.inl (ct_95033 4)))), ((rr 5), .inl (g 1, 8, .inr (.inl (ct_95033 5)))), ((rr 6), .inl (g 1, 8, .inr (.inl (ct_95033 6)))), ((rr 7), .inl (g 1, 8, .inr (.inl (ct_95033 7)))), (pl, .inl (g 0, 12, .inl f_95039)), (vs, .inr (10, [.ref vs_part, .long x_95040])), (vs_part, .inl (g 1, 12, .inr (.inl f_95041)))] H → va_D A [(sv, .inr (6, [.ref n, .ref co, .ref sv_keep, .ref sv_scaled])), (co, .inr (0, [.ref n, .ref eq, .ref co_place])), (n, .inr (2, [.int n_nodes, .ref n_kind, .ref n_pay, .ref n_name, .ref n_ways, .ref n_held, .ref n_targets, .ref n_weights])), (n_kind, .inl (g 0, 12, .inl n_fkind)), (n_pay, .inl (g 0, 12, .inl n_fpay)), (n_ways, .inl (g 0, 12, .inl n_fways)), (n_held, .inl (g 0, 12, .inl n_fheld)), (n_targets, .inl (g 0, 36, .inl n_ftargets)), (n_weights, .inl (g 0, 36, .inl n_fweights)), (co_place, .inl (g 0, 12, .inl f_95036)), (eq, .inr (1, [.ref eq_rows, .ref eq_right, .long x_95037])), (eq_right, .inl (g 1, 8, .inr (.inl f_95038))), (eq_rows, .inl (g 5, 8, .inr (.inr (.inr (.inr (fun i => if i < 8 then some (rr i) else none)))))), ((rr 0), .inl (g 1, 8, .inr (.inl (ct_95033 0)))), ((rr 1), .inl (g 1, 8, .inr (.inl (ct_95033 1)))), ((rr 2), .inl (g 1, 8, .inr (.inl (ct_95033 2)))), ((rr 3), .inl (g 1, 8, .inr (.inl (ct_95033 3)))), ((rr 4), .inl (g 1, 8, .inr (.inl (ct_95033 4)))), ((rr 5), .inl (g 1, 8, .inr (.inl (ct_95033 5)))), ((rr 6), .inl (g 1, 8, .inr (.inl (ct_95033 6)))), ((rr 7), .inl (g 1, 8, .inr (.inl (ct_95033 7)))), (pl, .inl (g 0, 12, .inl f_95039)), (vs, .inr (10, [.ref vs_part, .long x_95040])), (vs_part, .inl (g 1, 12, .inr (.inl f_95041)))] → va_S A s.heap H locs → lv_has ls 7 [(6, .int x_95034), (5, .int x_95035), (0, .ref sv), (1, .ref pl), (2, .int p0), (3, .int p1), (4, .ref vs)] → W p l e (headSpec (.code yX6_findWorth cX6_findWorth 7 none :: wsL_law) ({ frames := 5, cells := 0, slots := 0, locals := 132 })).room s m args below meth c H locs 0 0 (MQ below (va_Qv (fun (_ : Unit) => True) (fun _ t => ∃ opc : Nat → Int32, ∃ oew : Int64, ∃ ofr : Nat → Int64, ∃ opl : Nat → Int32, ∃ ovw : Int64, ∃ ovp : Nat → Int64, ∃ oct : Nat → Nat → Int64, (∀ j : Nat, (-1) ≤ (opc j).toInt ∧ (opc j).toInt ≤ 7) ∧ (∀ j : Nat, 0 ≤ (opl j).toInt ∧ (opl j).toInt ≤ 2) ∧ va_P D vwCl [(sv, .inr (6, [.ref n, .ref co, .ref sv_keep, .ref sv_scaled])), (co, .inr (0, [.ref n, .ref eq, .ref co_place])), (n, .inr (2, [.int n_nodes, .ref n_kind, .ref n_pay, .ref n_name, .ref n_ways, .ref n_held, .ref n_targets, .ref n_weights])), (n_kind, .inl (g 0, 12, .inl n_fkind)), (n_pay, .inl (g 0, 12, .inl n_fpay)), (n_ways, .inl (g 0, 12, .inl n_fways)), (n_held, .inl (g 0, 12, .inl n_fheld)), (n_targets, .inl (g 0, 36, .inl n_ftargets)), (n_weights, .inl (g 0, 36, .inl n_fweights)), (co_place, .inl (g 0, 12, .inl opc)), (eq, .inr (1, [.ref eq_rows, .ref eq_right, .long oew])), (eq_right, .inl (g 1, 8, .inr (.inl ofr))), (eq_rows, .inl (g 5, 8, .inr (.inr (.inr (.inr (fun i => if i < 8 then some (rr i) else none)))))), ((rr 0), .inl (g 1, 8, .inr (.inl (oct 0)))), ((rr 1), .inl (g 1, 8, .inr (.inl (oct 1)))), ((rr 2), .inl (g 1, 8, .inr (.inl (oct 2)))), ((rr 3), .inl (g 1, 8, .inr (.inl (oct 3)))), ((rr 4), .inl (g 1, 8, .inr (.inl (oct 4)))), ((rr 5), .inl (g 1, 8, .inr (.inl (oct 5)))), ((rr 6), .inl (g 1, 8, .inr (.inl (oct 6)))), ((rr 7), .inl (g 1, 8, .inr (.inl (oct 7)))), (pl, .inl (g 0, 12, .inl opl)), (vs, .inr (10, [.ref vs_part, .long ovw])), (vs_part, .inl (g 1, 12, .inr (.inl ovp)))] t.heap ∧ va_D A [(sv, .inr (6, [.ref n, .ref co, .ref sv_keep, .ref sv_scaled])), (co, .inr (0, [.ref n, .ref eq, .ref co_place])), (n, .inr (2, [.int n_nodes, .ref n_kind, .ref n_pay, .ref n_name, .ref n_ways, .ref n_held, .ref n_targets, .ref n_weights])), (n_kind, .inl (g 0, 12, .inl n_fkind)), (n_pay, .inl (g 0, 12, .inl n_fpay)), (n_ways, .inl (g 0, 12, .inl n_fways)), (n_held, .inl (g 0, 12, .inl n_fheld)), (n_targets, .inl (g 0, 36, .inl n_ftargets)), (n_weights, .inl (g 0, 36, .inl n_fweights)), (co_place, .inl (g 0, 12, .inl opc)), (eq, .inr (1, [.ref eq_rows, .ref eq_right, .long oew])), (eq_right, .inl (g 1, 8, .inr (.inl ofr))), (eq_rows, .inl (g 5, 8, .inr (.inr (.inr (.inr (fun i => if i < 8 then some (rr i) else none)))))), ((rr 0), .inl (g 1, 8, .inr (.inl (oct 0)))), ((rr 1), .inl (g 1, 8, .inr (.inl (oct 1)))), ((rr 2), .inl (g 1, 8, .inr (.inl (oct 2)))), ((rr 3), .inl (g 1, 8, .inr (.inl (oct 3)))), ((rr 4), .inl (g 1, 8, .inr (.inl (oct 4)))), ((rr 5), .inl (g 1, 8, .inr (.inl (oct 5)))), ((rr 6), .inl (g 1, 8, .inr (.inl (oct 6)))), ((rr 7), .inl (g 1, 8, .inr (.inl (oct 7)))), (pl, .inl (g 0, 12, .inl opl)), (vs, .inr (10, [.ref vs_part, .long ovw])), (vs_part, .inl (g 1, 12, .inr (.inl ovp)))]) A) args s 0 0 A) (F0 m 6 ls []) := by
    intro n_95042
    induction n_95042 with
    | zero =>
      intro ct_95033 x_95034 x_95035 f_95036 x_95037 f_95038 f_95039 x_95040 f_95041 H locs ls h_x_95034 h_x_95035 h_f_95036 h_f_95039 hm_95042 hP hD hS hl
      exfalso; omega
    | succ n_95042 ih_95042 =>
      intro ct_95033 x_95034 x_95035 f_95036 x_95037 f_95038 f_95039 x_95040 f_95041 H locs ls h_x_95034 h_x_95035 h_f_95036 h_f_95039 hm_95042 hP hD hS hl
      refine lv_iload hx hb dX6_findWorth_6 (lv_at hl 1 rfl) ?_
      refine lv_if_eq (tgt := 52) hx hb dX6_findWorth_8 (by decide) (fun c_95043 => ?_) (fun c_95043 => ?_)
      · skip
        have c_95043_i := c_95043
        have c_95043_i : (x_95035 : Int32).toInt = (0 : Int32).toInt := congrArg Int32.toInt c_95043
        have h_95044 : 0 ≤ (x_95035 : Int32).toInt ∧ (x_95035 : Int32).toInt ≤ 0 := by have q1 := h_x_95035; have q2 := (⟨by decide, by decide⟩ : 0 ≤ (0 : Int32).toInt ∧ (0 : Int32).toInt ≤ 0); omega
        have hP9 := hP.sub (ws' := [(sv, .inr (6, [.ref n, .ref co, .ref sv_keep, .ref sv_scaled])), (co, .inr (0, [.ref n, .ref eq, .ref co_place])), (n, .inr (2, [.int n_nodes, .ref n_kind, .ref n_pay, .ref n_name, .ref n_ways, .ref n_held, .ref n_targets, .ref n_weights])), (n_kind, .inl (g 0, 12, .inl n_fkind)), (n_pay, .inl (g 0, 12, .inl n_fpay)), (n_ways, .inl (g 0, 12, .inl n_fways)), (n_held, .inl (g 0, 12, .inl n_fheld)), (n_targets, .inl (g 0, 36, .inl n_ftargets)), (n_weights, .inl (g 0, 36, .inl n_fweights)), (co_place, .inl (g 0, 12, .inl f_95036)), (eq, .inr (1, [.ref eq_rows, .ref eq_right, .long x_95037])), (eq_right, .inl (g 1, 8, .inr (.inl f_95038))), (eq_rows, .inl (g 5, 8, .inr (.inr (.inr (.inr (fun i => if i < 8 then some (rr i) else none)))))), ((rr 0), .inl (g 1, 8, .inr (.inl (ct_95033 0)))), ((rr 1), .inl (g 1, 8, .inr (.inl (ct_95033 1)))), ((rr 2), .inl (g 1, 8, .inr (.inl (ct_95033 2)))), ((rr 3), .inl (g 1, 8, .inr (.inl (ct_95033 3)))), ((rr 4), .inl (g 1, 8, .inr (.inl (ct_95033 4)))), ((rr 5), .inl (g 1, 8, .inr (.inl (ct_95033 5)))), ((rr 6), .inl (g 1, 8, .inr (.inl (ct_95033 6)))), ((rr 7), .inl (g 1, 8, .inr (.inl (ct_95033 7)))), (pl, .inl (g 0, 12, .inl f_95039)), (vs, .inr (10, [.ref vs_part, .long x_95040])), (vs_part, .inl (g 1, 12, .inr (.inl f_95041)))]) [0, 1, 2, 3, 4, 5, 6, 7, 8, 9, 10, 11, 12, 13, 14, 15, 16, 17, 18, 19, 20, 21, 22, 23] rfl
        have hD9 := hD.sub (ws' := [(sv, .inr (6, [.ref n, .ref co, .ref sv_keep, .ref sv_scaled])), (co, .inr (0, [.ref n, .ref eq, .ref co_place])), (n, .inr (2, [.int n_nodes, .ref n_kind, .ref n_pay, .ref n_name, .ref n_ways, .ref n_held, .ref n_targets, .ref n_weights])), (n_kind, .inl (g 0, 12, .inl n_fkind)), (n_pay, .inl (g 0, 12, .inl n_fpay)), (n_ways, .inl (g 0, 12, .inl n_fways)), (n_held, .inl (g 0, 12, .inl n_fheld)), (n_targets, .inl (g 0, 36, .inl n_ftargets)), (n_weights, .inl (g 0, 36, .inl n_fweights)), (co_place, .inl (g 0, 12, .inl f_95036)), (eq, .inr (1, [.ref eq_rows, .ref eq_right, .long x_95037])), (eq_right, .inl (g 1, 8, .inr (.inl f_95038))), (eq_rows, .inl (g 5, 8, .inr (.inr (.inr (.inr (fun i => if i < 8 then some (rr i) else none)))))), ((rr 0), .inl (g 1, 8, .inr (.inl (ct_95033 0)))), ((rr 1), .inl (g 1, 8, .inr (.inl (ct_95033 1)))), ((rr 2), .inl (g 1, 8, .inr (.inl (ct_95033 2)))), ((rr 3), .inl (g 1, 8, .inr (.inl (ct_95033 3)))), ((rr 4), .inl (g 1, 8, .inr (.inl (ct_95033 4)))), ((rr 5), .inl (g 1, 8, .inr (.inl (ct_95033 5)))), ((rr 6), .inl (g 1, 8, .inr (.inl (ct_95033 6)))), ((rr 7), .inl (g 1, 8, .inr (.inl (ct_95033 7)))), (pl, .inl (g 0, 12, .inl f_95039)), (vs, .inr (10, [.ref vs_part, .long x_95040])), (vs_part, .inl (g 1, 12, .inr (.inl f_95041)))]) [0, 1, 2, 3, 4, 5, 6, 7, 8, 9, 10, 11, 12, 13, 14, 15, 16, 17, 18, 19, 20, 21, 22, 23] (by decide) rfl
        exact W.vret hx hb hr (fun t ht hW => ⟨⟨(), rfl, trivial, f_95036, x_95037, f_95038, f_95039, x_95040, f_95041, ct_95033, (tr_wa h_f_95036 (by decide) (by decide)), (tr_wa h_f_95039 (by decide) (by decide)), by rw [ht]; exact hP9, hD9⟩, hS.F ht⟩) hS.2.2 dX6_findWorth_52
      · skip
        have c_95043_i := c_95043
        have c_95043_i : ¬ (x_95035 : Int32).toInt = (0 : Int32).toInt := (fun q => c_95043 (Int32.toInt_inj.mp q))
        have h_95045 : 1 ≤ (x_95035 : Int32).toInt ∧ (x_95035 : Int32).toInt ≤ 1 := by have q1 := h_x_95035; have q2 := (⟨by decide, by decide⟩ : 0 ≤ (0 : Int32).toInt ∧ (0 : Int32).toInt ≤ 0); omega
        refine lv_iload hx hb dX6_findWorth_11 (lv_at hl 0 rfl) ?_
        refine lv_sipush (v := 6561) hx hb dX6_findWorth_13 (by decide) ?_
        refine lv_icmp_ge (tgt := 52) hx hb dX6_findWorth_16 (by decide) (fun c_95046 => ?_) (fun c_95046 => ?_)
        · skip
          have c_95046_i := Int32.le_iff_toInt_le.mp c_95046
          have h_95047 : 6561 ≤ (x_95034 : Int32).toInt ∧ (x_95034 : Int32).toInt ≤ 2147483647 := by have q1 := h_x_95034; have q2 := (⟨by decide, by decide⟩ : 6561 ≤ (6561 : Int32).toInt ∧ (6561 : Int32).toInt ≤ 6561); omega
          have hP9 := hP.sub (ws' := [(sv, .inr (6, [.ref n, .ref co, .ref sv_keep, .ref sv_scaled])), (co, .inr (0, [.ref n, .ref eq, .ref co_place])), (n, .inr (2, [.int n_nodes, .ref n_kind, .ref n_pay, .ref n_name, .ref n_ways, .ref n_held, .ref n_targets, .ref n_weights])), (n_kind, .inl (g 0, 12, .inl n_fkind)), (n_pay, .inl (g 0, 12, .inl n_fpay)), (n_ways, .inl (g 0, 12, .inl n_fways)), (n_held, .inl (g 0, 12, .inl n_fheld)), (n_targets, .inl (g 0, 36, .inl n_ftargets)), (n_weights, .inl (g 0, 36, .inl n_fweights)), (co_place, .inl (g 0, 12, .inl f_95036)), (eq, .inr (1, [.ref eq_rows, .ref eq_right, .long x_95037])), (eq_right, .inl (g 1, 8, .inr (.inl f_95038))), (eq_rows, .inl (g 5, 8, .inr (.inr (.inr (.inr (fun i => if i < 8 then some (rr i) else none)))))), ((rr 0), .inl (g 1, 8, .inr (.inl (ct_95033 0)))), ((rr 1), .inl (g 1, 8, .inr (.inl (ct_95033 1)))), ((rr 2), .inl (g 1, 8, .inr (.inl (ct_95033 2)))), ((rr 3), .inl (g 1, 8, .inr (.inl (ct_95033 3)))), ((rr 4), .inl (g 1, 8, .inr (.inl (ct_95033 4)))), ((rr 5), .inl (g 1, 8, .inr (.inl (ct_95033 5)))), ((rr 6), .inl (g 1, 8, .inr (.inl (ct_95033 6)))), ((rr 7), .inl (g 1, 8, .inr (.inl (ct_95033 7)))), (pl, .inl (g 0, 12, .inl f_95039)), (vs, .inr (10, [.ref vs_part, .long x_95040])), (vs_part, .inl (g 1, 12, .inr (.inl f_95041)))]) [0, 1, 2, 3, 4, 5, 6, 7, 8, 9, 10, 11, 12, 13, 14, 15, 16, 17, 18, 19, 20, 21, 22, 23] rfl
          have hD9 := hD.sub (ws' := [(sv, .inr (6, [.ref n, .ref co, .ref sv_keep, .ref sv_scaled])), (co, .inr (0, [.ref n, .ref eq, .ref co_place])), (n, .inr (2, [.int n_nodes, .ref n_kind, .ref n_pay, .ref n_name, .ref n_ways, .ref n_held, .ref n_targets, .ref n_weights])), (n_kind, .inl (g 0, 12, .inl n_fkind)), (n_pay, .inl (g 0, 12, .inl n_fpay)), (n_ways, .inl (g 0, 12, .inl n_fways)), (n_held, .inl (g 0, 12, .inl n_fheld)), (n_targets, .inl (g 0, 36, .inl n_ftargets)), (n_weights, .inl (g 0, 36, .inl n_fweights)), (co_place, .inl (g 0, 12, .inl f_95036)), (eq, .inr (1, [.ref eq_rows, .ref eq_right, .long x_95037])), (eq_right, .inl (g 1, 8, .inr (.inl f_95038))), (eq_rows, .inl (g 5, 8, .inr (.inr (.inr (.inr (fun i => if i < 8 then some (rr i) else none)))))), ((rr 0), .inl (g 1, 8, .inr (.inl (ct_95033 0)))), ((rr 1), .inl (g 1, 8, .inr (.inl (ct_95033 1)))), ((rr 2), .inl (g 1, 8, .inr (.inl (ct_95033 2)))), ((rr 3), .inl (g 1, 8, .inr (.inl (ct_95033 3)))), ((rr 4), .inl (g 1, 8, .inr (.inl (ct_95033 4)))), ((rr 5), .inl (g 1, 8, .inr (.inl (ct_95033 5)))), ((rr 6), .inl (g 1, 8, .inr (.inl (ct_95033 6)))), ((rr 7), .inl (g 1, 8, .inr (.inl (ct_95033 7)))), (pl, .inl (g 0, 12, .inl f_95039)), (vs, .inr (10, [.ref vs_part, .long x_95040])), (vs_part, .inl (g 1, 12, .inr (.inl f_95041)))]) [0, 1, 2, 3, 4, 5, 6, 7, 8, 9, 10, 11, 12, 13, 14, 15, 16, 17, 18, 19, 20, 21, 22, 23] (by decide) rfl
          exact W.vret hx hb hr (fun t ht hW => ⟨⟨(), rfl, trivial, f_95036, x_95037, f_95038, f_95039, x_95040, f_95041, ct_95033, (tr_wa h_f_95036 (by decide) (by decide)), (tr_wa h_f_95039 (by decide) (by decide)), by rw [ht]; exact hP9, hD9⟩, hS.F ht⟩) hS.2.2 dX6_findWorth_52
        · skip
          have c_95046_i := Int32.lt_iff_toInt_lt.mp (Int32.not_le.mp c_95046)
          have h_95048 : 0 ≤ (x_95034 : Int32).toInt ∧ (x_95034 : Int32).toInt ≤ 6560 := by have q1 := h_x_95034; have q2 := (⟨by decide, by decide⟩ : 6561 ≤ (6561 : Int32).toInt ∧ (6561 : Int32).toInt ≤ 6561); omega
          refine lv_aload_n hx hb dX6_findWorth_19 rfl (lv_at hl 2 rfl) ?_
          refine lv_aload_n hx hb dX6_findWorth_20 rfl (lv_at hl 3 rfl) ?_
          refine lv_iload_n hx hb dX6_findWorth_21 rfl (lv_at hl 4 rfl) ?_
          refine lv_iload_n hx hb dX6_findWorth_22 rfl (lv_at hl 5 rfl) ?_
          refine lv_aload hx hb dX6_findWorth_23 (lv_at hl 6 rfl) ?_
          have hPc := hP.sub (ws' := [(sv, .inr (6, [.ref n, .ref co, .ref sv_keep, .ref sv_scaled])), (co, .inr (0, [.ref n, .ref eq, .ref co_place])), (n, .inr (2, [.int n_nodes, .ref n_kind, .ref n_pay, .ref n_name, .ref n_ways, .ref n_held, .ref n_targets, .ref n_weights])), (n_kind, .inl (g 0, 12, .inl n_fkind)), (n_pay, .inl (g 0, 12, .inl n_fpay)), (n_ways, .inl (g 0, 12, .inl n_fways)), (n_held, .inl (g 0, 12, .inl n_fheld)), (n_targets, .inl (g 0, 36, .inl n_ftargets)), (n_weights, .inl (g 0, 36, .inl n_fweights)), (co_place, .inl (g 0, 12, .inl f_95036)), (eq, .inr (1, [.ref eq_rows, .ref eq_right, .long x_95037])), (eq_right, .inl (g 1, 8, .inr (.inl f_95038))), (eq_rows, .inl (g 5, 8, .inr (.inr (.inr (.inr (fun i => if i < 8 then some (rr i) else none)))))), ((rr 0), .inl (g 1, 8, .inr (.inl (ct_95033 0)))), ((rr 1), .inl (g 1, 8, .inr (.inl (ct_95033 1)))), ((rr 2), .inl (g 1, 8, .inr (.inl (ct_95033 2)))), ((rr 3), .inl (g 1, 8, .inr (.inl (ct_95033 3)))), ((rr 4), .inl (g 1, 8, .inr (.inl (ct_95033 4)))), ((rr 5), .inl (g 1, 8, .inr (.inl (ct_95033 5)))), ((rr 6), .inl (g 1, 8, .inr (.inl (ct_95033 6)))), ((rr 7), .inl (g 1, 8, .inr (.inl (ct_95033 7)))), (pl, .inl (g 0, 12, .inl f_95039)), (vs, .inr (10, [.ref vs_part, .long x_95040])), (vs_part, .inl (g 1, 12, .inr (.inl f_95041)))]) [0, 1, 2, 3, 4, 5, 6, 7, 8, 9, 10, 11, 12, 13, 14, 15, 16, 17, 18, 19, 20, 21, 22, 23] rfl
          have hDc := hD.sub (ws' := [(sv, .inr (6, [.ref n, .ref co, .ref sv_keep, .ref sv_scaled])), (co, .inr (0, [.ref n, .ref eq, .ref co_place])), (n, .inr (2, [.int n_nodes, .ref n_kind, .ref n_pay, .ref n_name, .ref n_ways, .ref n_held, .ref n_targets, .ref n_weights])), (n_kind, .inl (g 0, 12, .inl n_fkind)), (n_pay, .inl (g 0, 12, .inl n_fpay)), (n_ways, .inl (g 0, 12, .inl n_fways)), (n_held, .inl (g 0, 12, .inl n_fheld)), (n_targets, .inl (g 0, 36, .inl n_ftargets)), (n_weights, .inl (g 0, 36, .inl n_fweights)), (co_place, .inl (g 0, 12, .inl f_95036)), (eq, .inr (1, [.ref eq_rows, .ref eq_right, .long x_95037])), (eq_right, .inl (g 1, 8, .inr (.inl f_95038))), (eq_rows, .inl (g 5, 8, .inr (.inr (.inr (.inr (fun i => if i < 8 then some (rr i) else none)))))), ((rr 0), .inl (g 1, 8, .inr (.inl (ct_95033 0)))), ((rr 1), .inl (g 1, 8, .inr (.inl (ct_95033 1)))), ((rr 2), .inl (g 1, 8, .inr (.inl (ct_95033 2)))), ((rr 3), .inl (g 1, 8, .inr (.inl (ct_95033 3)))), ((rr 4), .inl (g 1, 8, .inr (.inl (ct_95033 4)))), ((rr 5), .inl (g 1, 8, .inr (.inl (ct_95033 5)))), ((rr 6), .inl (g 1, 8, .inr (.inl (ct_95033 6)))), ((rr 7), .inl (g 1, 8, .inr (.inl (ct_95033 7)))), (pl, .inl (g 0, 12, .inl f_95039)), (vs, .inr (10, [.ref vs_part, .long x_95040])), (vs_part, .inl (g 1, 12, .inr (.inl f_95041)))]) [0, 1, 2, 3, 4, 5, 6, 7, 8, 9, 10, 11, 12, 13, 14, 15, 16, 17, 18, 19, 20, 21, 22, 23] (by decide) rfl
          have hFc := va_free (wc := [(sv, .inr (6, [.ref n, .ref co, .ref sv_keep, .ref sv_scaled])), (co, .inr (0, [.ref n, .ref eq, .ref co_place])), (n, .inr (2, [.int n_nodes, .ref n_kind, .ref n_pay, .ref n_name, .ref n_ways, .ref n_held, .ref n_targets, .ref n_weights])), (n_kind, .inl (g 0, 12, .inl n_fkind)), (n_pay, .inl (g 0, 12, .inl n_fpay)), (n_ways, .inl (g 0, 12, .inl n_fways)), (n_held, .inl (g 0, 12, .inl n_fheld)), (n_targets, .inl (g 0, 36, .inl n_ftargets)), (n_weights, .inl (g 0, 36, .inl n_fweights)), (co_place, .inl (g 0, 12, .inl f_95036)), (eq, .inr (1, [.ref eq_rows, .ref eq_right, .long x_95037])), (eq_right, .inl (g 1, 8, .inr (.inl f_95038))), (eq_rows, .inl (g 5, 8, .inr (.inr (.inr (.inr (fun i => if i < 8 then some (rr i) else none)))))), ((rr 0), .inl (g 1, 8, .inr (.inl (ct_95033 0)))), ((rr 1), .inl (g 1, 8, .inr (.inl (ct_95033 1)))), ((rr 2), .inl (g 1, 8, .inr (.inl (ct_95033 2)))), ((rr 3), .inl (g 1, 8, .inr (.inl (ct_95033 3)))), ((rr 4), .inl (g 1, 8, .inr (.inl (ct_95033 4)))), ((rr 5), .inl (g 1, 8, .inr (.inl (ct_95033 5)))), ((rr 6), .inl (g 1, 8, .inr (.inl (ct_95033 6)))), ((rr 7), .inl (g 1, 8, .inr (.inl (ct_95033 7)))), (pl, .inl (g 0, 12, .inl f_95039)), (vs, .inr (10, [.ref vs_part, .long x_95040])), (vs_part, .inl (g 1, 12, .inr (.inl f_95041)))]) hD hS hA [0, 1, 2, 3, 4, 5, 6, 7, 8, 9, 10, 11, 12, 13, 14, 15, 16, 17, 18, 19, 20, 21, 22, 23] rfl
          refine va_callv (va_runV (As := [.ref pl, .int p0, .int p1, .ref vs]) (rest := []) ⟨hx, hb, hml, hown, hts⟩ (c_X6_findLeft l D g H.size sv pl p0 p1 vs n co sv_keep sv_scaled eq co_place n_nodes n_kind n_pay n_name n_ways n_held n_targets n_weights n_fkind n_fpay n_fways n_fheld n_ftargets n_fweights f_95036 eq_rows eq_right x_95037 f_95038 rr ct_95033 f_95039 vs_part x_95040 f_95041 (tr_w h_n_nodes (by decide) (by decide)) (tr_wa h_n_fkind (by decide) (by decide)) (tr_wa h_n_fways (by decide) (by decide)) (tr_wa h_n_fheld (by decide) (by decide)) (tr_wa h_n_ftargets (by decide) (by decide)) (tr_wa h_f_95036 (by decide) (by decide)) (tr_wa h_f_95039 (by decide) (by decide))) (cwV 4 hts (tz_gV qw_579 qw_580 qw_581 qw_558 qw_582) rfl rfl rfl (by decide +kernel) ⟨Nat.le_of_ble_eq_true rfl, Nat.le_of_ble_eq_true rfl⟩) ⟨tz_blQ, va_recv hK hPc (ci := 6) (q0 := 0) rfl rfl, tz_preQ hPc hK hDc⟩ rfl rfl hl.1 rfl (lv_room (Nat.le_of_ble_eq_true rfl)) dX6_findWorth_25 ⟨Nat.le_of_ble_eq_true rfl, Nat.le_of_ble_eq_true rfl⟩) hS (fun q _ h => hFc q h) hFc (fun u t H1 locs ht hvm hw hB hz1 hk1 hS => ?_)
          obtain ⟨opc_95050, oew_95051, ofr_95052, opl_95053, ovw_95054, ovp_95055, oct_95056, hf_95057, hf_95058, hP1, hD1⟩ := hB
          rw [ht] at hP1
          obtain ⟨hP, hD⟩ := va_join (wr := []) (w1 := [(sv, .inr (6, [.ref n, .ref co, .ref sv_keep, .ref sv_scaled])), (co, .inr (0, [.ref n, .ref eq, .ref co_place])), (n, .inr (2, [.int n_nodes, .ref n_kind, .ref n_pay, .ref n_name, .ref n_ways, .ref n_held, .ref n_targets, .ref n_weights])), (n_kind, .inl (g 0, 12, .inl n_fkind)), (n_pay, .inl (g 0, 12, .inl n_fpay)), (n_ways, .inl (g 0, 12, .inl n_fways)), (n_held, .inl (g 0, 12, .inl n_fheld)), (n_targets, .inl (g 0, 36, .inl n_ftargets)), (n_weights, .inl (g 0, 36, .inl n_fweights)), (co_place, .inl (g 0, 12, .inl opc_95050)), (eq, .inr (1, [.ref eq_rows, .ref eq_right, .long oew_95051])), (eq_right, .inl (g 1, 8, .inr (.inl ofr_95052))), (eq_rows, .inl (g 5, 8, .inr (.inr (.inr (.inr (fun i => if i < 8 then some (rr i) else none)))))), ((rr 0), .inl (g 1, 8, .inr (.inl (oct_95056 0)))), ((rr 1), .inl (g 1, 8, .inr (.inl (oct_95056 1)))), ((rr 2), .inl (g 1, 8, .inr (.inl (oct_95056 2)))), ((rr 3), .inl (g 1, 8, .inr (.inl (oct_95056 3)))), ((rr 4), .inl (g 1, 8, .inr (.inl (oct_95056 4)))), ((rr 5), .inl (g 1, 8, .inr (.inl (oct_95056 5)))), ((rr 6), .inl (g 1, 8, .inr (.inl (oct_95056 6)))), ((rr 7), .inl (g 1, 8, .inr (.inl (oct_95056 7)))), (pl, .inl (g 0, 12, .inl opl_95053)), (vs, .inr (10, [.ref vs_part, .long ovw_95054])), (vs_part, .inl (g 1, 12, .inr (.inl ovp_95055)))]) hP hD [0, 1, 2, 3, 4, 5, 6, 7, 8, 9, 10, 11, 12, 13, 14, 15, 16, 17, 18, 19, 20, 21, 22, 23] [] rfl rfl (by decide) (by decide) hk1 hFc hP1 hD1
          generalize H1 = H at hP hS ⊢
          have hP : va_P D vwCl [(sv, .inr (6, [.ref n, .ref co, .ref sv_keep, .ref sv_scaled])), (co, .inr (0, [.ref n, .ref eq, .ref co_place])), (n, .inr (2, [.int n_nodes, .ref n_kind, .ref n_pay, .ref n_name, .ref n_ways, .ref n_held, .ref n_targets, .ref n_weights])), (n_kind, .inl (g 0, 12, .inl n_fkind)), (n_pay, .inl (g 0, 12, .inl n_fpay)), (n_ways, .inl (g 0, 12, .inl n_fways)), (n_held, .inl (g 0, 12, .inl n_fheld)), (n_targets, .inl (g 0, 36, .inl n_ftargets)), (n_weights, .inl (g 0, 36, .inl n_fweights)), (co_place, .inl (g 0, 12, .inl opc_95050)), (eq, .inr (1, [.ref eq_rows, .ref eq_right, .long oew_95051])), (eq_right, .inl (g 1, 8, .inr (.inl ofr_95052))), (eq_rows, .inl (g 5, 8, .inr (.inr (.inr (.inr (fun i => if i < 8 then some (rr i) else none)))))), ((rr 0), .inl (g 1, 8, .inr (.inl (oct_95056 0)))), ((rr 1), .inl (g 1, 8, .inr (.inl (oct_95056 1)))), ((rr 2), .inl (g 1, 8, .inr (.inl (oct_95056 2)))), ((rr 3), .inl (g 1, 8, .inr (.inl (oct_95056 3)))), ((rr 4), .inl (g 1, 8, .inr (.inl (oct_95056 4)))), ((rr 5), .inl (g 1, 8, .inr (.inl (oct_95056 5)))), ((rr 6), .inl (g 1, 8, .inr (.inl (oct_95056 6)))), ((rr 7), .inl (g 1, 8, .inr (.inl (oct_95056 7)))), (pl, .inl (g 0, 12, .inl opl_95053)), (vs, .inr (10, [.ref vs_part, .long ovw_95054])), (vs_part, .inl (g 1, 12, .inr (.inl ovp_95055)))] H := hP
          have hD : va_D A [(sv, .inr (6, [.ref n, .ref co, .ref sv_keep, .ref sv_scaled])), (co, .inr (0, [.ref n, .ref eq, .ref co_place])), (n, .inr (2, [.int n_nodes, .ref n_kind, .ref n_pay, .ref n_name, .ref n_ways, .ref n_held, .ref n_targets, .ref n_weights])), (n_kind, .inl (g 0, 12, .inl n_fkind)), (n_pay, .inl (g 0, 12, .inl n_fpay)), (n_ways, .inl (g 0, 12, .inl n_fways)), (n_held, .inl (g 0, 12, .inl n_fheld)), (n_targets, .inl (g 0, 36, .inl n_ftargets)), (n_weights, .inl (g 0, 36, .inl n_fweights)), (co_place, .inl (g 0, 12, .inl opc_95050)), (eq, .inr (1, [.ref eq_rows, .ref eq_right, .long oew_95051])), (eq_right, .inl (g 1, 8, .inr (.inl ofr_95052))), (eq_rows, .inl (g 5, 8, .inr (.inr (.inr (.inr (fun i => if i < 8 then some (rr i) else none)))))), ((rr 0), .inl (g 1, 8, .inr (.inl (oct_95056 0)))), ((rr 1), .inl (g 1, 8, .inr (.inl (oct_95056 1)))), ((rr 2), .inl (g 1, 8, .inr (.inl (oct_95056 2)))), ((rr 3), .inl (g 1, 8, .inr (.inl (oct_95056 3)))), ((rr 4), .inl (g 1, 8, .inr (.inl (oct_95056 4)))), ((rr 5), .inl (g 1, 8, .inr (.inl (oct_95056 5)))), ((rr 6), .inl (g 1, 8, .inr (.inl (oct_95056 6)))), ((rr 7), .inl (g 1, 8, .inr (.inl (oct_95056 7)))), (pl, .inl (g 0, 12, .inl opl_95053)), (vs, .inr (10, [.ref vs_part, .long ovw_95054])), (vs_part, .inl (g 1, 12, .inr (.inl ovp_95055)))] := hD
          refine lv_aload_n hx hb dX6_findWorth_28 rfl (lv_at hl 2 rfl) ?_
          refine lv_iconst (v := 1) hx hb dX6_findWorth_29 (by decide) ?_
          refine lv_aload_n hx hb dX6_findWorth_30 rfl (lv_at hl 3 rfl) ?_
          refine lv_aload hx hb dX6_findWorth_31 (lv_at hl 6 rfl) ?_
          have hPc := hP.sub (ws' := [(sv, .inr (6, [.ref n, .ref co, .ref sv_keep, .ref sv_scaled])), (n, .inr (2, [.int n_nodes, .ref n_kind, .ref n_pay, .ref n_name, .ref n_ways, .ref n_held, .ref n_targets, .ref n_weights])), (n_kind, .inl (g 0, 12, .inl n_fkind)), (n_ways, .inl (g 0, 12, .inl n_fways)), (n_held, .inl (g 0, 12, .inl n_fheld)), (n_targets, .inl (g 0, 36, .inl n_ftargets)), (vs, .inr (10, [.ref vs_part, .long ovw_95054])), (vs_part, .inl (g 1, 12, .inr (.inl ovp_95055))), (pl, .inl (g 0, 12, .inl opl_95053))]) [0, 2, 3, 5, 6, 7, 22, 23, 21] rfl
          have hDc := hD.sub (ws' := [(sv, .inr (6, [.ref n, .ref co, .ref sv_keep, .ref sv_scaled])), (n, .inr (2, [.int n_nodes, .ref n_kind, .ref n_pay, .ref n_name, .ref n_ways, .ref n_held, .ref n_targets, .ref n_weights])), (n_kind, .inl (g 0, 12, .inl n_fkind)), (n_ways, .inl (g 0, 12, .inl n_fways)), (n_held, .inl (g 0, 12, .inl n_fheld)), (n_targets, .inl (g 0, 36, .inl n_ftargets)), (vs, .inr (10, [.ref vs_part, .long ovw_95054])), (vs_part, .inl (g 1, 12, .inr (.inl ovp_95055))), (pl, .inl (g 0, 12, .inl opl_95053))]) [0, 2, 3, 5, 6, 7, 22, 23, 21] (by decide) rfl
          have hFc := va_free (wc := [(sv, .inr (6, [.ref n, .ref co, .ref sv_keep, .ref sv_scaled])), (n, .inr (2, [.int n_nodes, .ref n_kind, .ref n_pay, .ref n_name, .ref n_ways, .ref n_held, .ref n_targets, .ref n_weights])), (n_kind, .inl (g 0, 12, .inl n_fkind)), (n_ways, .inl (g 0, 12, .inl n_fways)), (n_held, .inl (g 0, 12, .inl n_fheld)), (n_targets, .inl (g 0, 36, .inl n_ftargets)), (vs, .inr (10, [.ref vs_part, .long ovw_95054])), (vs_part, .inl (g 1, 12, .inr (.inl ovp_95055))), (pl, .inl (g 0, 12, .inl opl_95053))]) hD hS hA [0, 2, 3, 5, 6, 7, 22, 23, 21] rfl
          refine va_calli (va_runV (As := [.int 1, .ref pl, .ref vs]) (rest := []) ⟨hx, hb, hml, hown, hts⟩ (c_X6_turn l D g H.size sv 1 pl vs n co sv_keep sv_scaled n_nodes n_kind n_pay n_name n_ways n_held n_targets n_weights n_fkind n_fways n_fheld n_ftargets vs_part ovw_95054 ovp_95055 opl_95053 (tr_w h_n_nodes (by decide) (by decide)) (tr_wa h_n_fkind (by decide) (by decide)) (tr_wa h_n_fways (by decide) (by decide)) (tr_wa h_n_fheld (by decide) (by decide)) (tr_wa h_n_ftargets (by decide) (by decide)) (tr_wa hf_95058 (by decide) (by decide))) (cwV 3 hts (tz_gV qw_583 qw_584 qw_585 qw_558 qw_586) rfl rfl rfl (by decide +kernel) ⟨Nat.le_of_ble_eq_true rfl, Nat.le_of_ble_eq_true rfl⟩) ⟨tz_blQ, va_recv hK hPc (ci := 6) (q0 := 0) rfl rfl, tz_preQ hPc hK hDc⟩ rfl rfl hl.1 rfl (lv_room (Nat.le_of_ble_eq_true rfl)) dX6_findWorth_33 ⟨Nat.le_of_ble_eq_true rfl, Nat.le_of_ble_eq_true rfl⟩) hS (fun q _ h => hFc q h) hFc (fun r_95059 u t H1 locs ht hvm hw hB hz1 hk1 hS => ?_)
          obtain ⟨opl_95060, hf_95061, hP1, hD1⟩ := hB
          rw [ht] at hP1
          obtain ⟨hP, hD⟩ := va_join (wr := [(co, .inr (0, [.ref n, .ref eq, .ref co_place])), (n_pay, .inl (g 0, 12, .inl n_fpay)), (n_weights, .inl (g 0, 36, .inl n_fweights)), (co_place, .inl (g 0, 12, .inl opc_95050)), (eq, .inr (1, [.ref eq_rows, .ref eq_right, .long oew_95051])), (eq_right, .inl (g 1, 8, .inr (.inl ofr_95052))), (eq_rows, .inl (g 5, 8, .inr (.inr (.inr (.inr (fun i => if i < 8 then some (rr i) else none)))))), ((rr 0), .inl (g 1, 8, .inr (.inl (oct_95056 0)))), ((rr 1), .inl (g 1, 8, .inr (.inl (oct_95056 1)))), ((rr 2), .inl (g 1, 8, .inr (.inl (oct_95056 2)))), ((rr 3), .inl (g 1, 8, .inr (.inl (oct_95056 3)))), ((rr 4), .inl (g 1, 8, .inr (.inl (oct_95056 4)))), ((rr 5), .inl (g 1, 8, .inr (.inl (oct_95056 5)))), ((rr 6), .inl (g 1, 8, .inr (.inl (oct_95056 6)))), ((rr 7), .inl (g 1, 8, .inr (.inl (oct_95056 7))))]) (w1 := [(sv, .inr (6, [.ref n, .ref co, .ref sv_keep, .ref sv_scaled])), (n, .inr (2, [.int n_nodes, .ref n_kind, .ref n_pay, .ref n_name, .ref n_ways, .ref n_held, .ref n_targets, .ref n_weights])), (n_kind, .inl (g 0, 12, .inl n_fkind)), (n_ways, .inl (g 0, 12, .inl n_fways)), (n_held, .inl (g 0, 12, .inl n_fheld)), (n_targets, .inl (g 0, 36, .inl n_ftargets)), (vs, .inr (10, [.ref vs_part, .long ovw_95054])), (vs_part, .inl (g 1, 12, .inr (.inl ovp_95055))), (pl, .inl (g 0, 12, .inl opl_95060))]) hP hD [0, 2, 3, 5, 6, 7, 22, 23, 21] [1, 4, 8, 9, 10, 11, 12, 13, 14, 15, 16, 17, 18, 19, 20] rfl rfl (by decide) (by decide) hk1 hFc hP1 hD1
          generalize H1 = H at hP hS ⊢
          have hP : va_P D vwCl [(co, .inr (0, [.ref n, .ref eq, .ref co_place])), (n_pay, .inl (g 0, 12, .inl n_fpay)), (n_weights, .inl (g 0, 36, .inl n_fweights)), (co_place, .inl (g 0, 12, .inl opc_95050)), (eq, .inr (1, [.ref eq_rows, .ref eq_right, .long oew_95051])), (eq_right, .inl (g 1, 8, .inr (.inl ofr_95052))), (eq_rows, .inl (g 5, 8, .inr (.inr (.inr (.inr (fun i => if i < 8 then some (rr i) else none)))))), ((rr 0), .inl (g 1, 8, .inr (.inl (oct_95056 0)))), ((rr 1), .inl (g 1, 8, .inr (.inl (oct_95056 1)))), ((rr 2), .inl (g 1, 8, .inr (.inl (oct_95056 2)))), ((rr 3), .inl (g 1, 8, .inr (.inl (oct_95056 3)))), ((rr 4), .inl (g 1, 8, .inr (.inl (oct_95056 4)))), ((rr 5), .inl (g 1, 8, .inr (.inl (oct_95056 5)))), ((rr 6), .inl (g 1, 8, .inr (.inl (oct_95056 6)))), ((rr 7), .inl (g 1, 8, .inr (.inl (oct_95056 7)))), (sv, .inr (6, [.ref n, .ref co, .ref sv_keep, .ref sv_scaled])), (n, .inr (2, [.int n_nodes, .ref n_kind, .ref n_pay, .ref n_name, .ref n_ways, .ref n_held, .ref n_targets, .ref n_weights])), (n_kind, .inl (g 0, 12, .inl n_fkind)), (n_ways, .inl (g 0, 12, .inl n_fways)), (n_held, .inl (g 0, 12, .inl n_fheld)), (n_targets, .inl (g 0, 36, .inl n_ftargets)), (vs, .inr (10, [.ref vs_part, .long ovw_95054])), (vs_part, .inl (g 1, 12, .inr (.inl ovp_95055))), (pl, .inl (g 0, 12, .inl opl_95060))] H := hP
          have hD : va_D A [(co, .inr (0, [.ref n, .ref eq, .ref co_place])), (n_pay, .inl (g 0, 12, .inl n_fpay)), (n_weights, .inl (g 0, 36, .inl n_fweights)), (co_place, .inl (g 0, 12, .inl opc_95050)), (eq, .inr (1, [.ref eq_rows, .ref eq_right, .long oew_95051])), (eq_right, .inl (g 1, 8, .inr (.inl ofr_95052))), (eq_rows, .inl (g 5, 8, .inr (.inr (.inr (.inr (fun i => if i < 8 then some (rr i) else none)))))), ((rr 0), .inl (g 1, 8, .inr (.inl (oct_95056 0)))), ((rr 1), .inl (g 1, 8, .inr (.inl (oct_95056 1)))), ((rr 2), .inl (g 1, 8, .inr (.inl (oct_95056 2)))), ((rr 3), .inl (g 1, 8, .inr (.inl (oct_95056 3)))), ((rr 4), .inl (g 1, 8, .inr (.inl (oct_95056 4)))), ((rr 5), .inl (g 1, 8, .inr (.inl (oct_95056 5)))), ((rr 6), .inl (g 1, 8, .inr (.inl (oct_95056 6)))), ((rr 7), .inl (g 1, 8, .inr (.inl (oct_95056 7)))), (sv, .inr (6, [.ref n, .ref co, .ref sv_keep, .ref sv_scaled])), (n, .inr (2, [.int n_nodes, .ref n_kind, .ref n_pay, .ref n_name, .ref n_ways, .ref n_held, .ref n_targets, .ref n_weights])), (n_kind, .inl (g 0, 12, .inl n_fkind)), (n_ways, .inl (g 0, 12, .inl n_fways)), (n_held, .inl (g 0, 12, .inl n_fheld)), (n_targets, .inl (g 0, 36, .inl n_ftargets)), (vs, .inr (10, [.ref vs_part, .long ovw_95054])), (vs_part, .inl (g 1, 12, .inr (.inl ovp_95055))), (pl, .inl (g 0, 12, .inl opl_95060))] := hD
          refine lv_if_le (tgt := 43) hx hb dX6_findWorth_36 (by decide) (fun c_95062 => ?_) (fun c_95062 => ?_)
          · skip
            have c_95062_i := Int32.le_iff_toInt_le.mp c_95062
            have h_95063 : (-2147483648) ≤ (r_95059 : Int32).toInt ∧ (r_95059 : Int32).toInt ≤ 0 := by have q1 := tr_any r_95059; have q2 := (⟨by decide, by decide⟩ : 0 ≤ (0 : Int32).toInt ∧ (0 : Int32).toInt ≤ 0); omega
            refine lv_iconst (v := 0) hx hb dX6_findWorth_43 (by decide) ?_
            refine lv_istore (lv' := [(5, .int 0), (6, .int x_95034), (0, .ref sv), (1, .ref pl), (2, .int p0), (3, .int p1), (4, .ref vs)]) hx hb dX6_findWorth_44 hl (by decide) rfl (fun ls hl => ?_)
            obtain ⟨v_95065, v_95065_e⟩ : ∃ y : Int32, y = x_95034 + Int32.ofInt 1 := ⟨_, rfl⟩
            have h_v_95065 : 1 ≤ (v_95065 : Int32).toInt ∧ (v_95065 : Int32).toInt ≤ 6561 := by rw [v_95065_e]; exact tr_add h_95048 (⟨by decide, by decide⟩ : 1 ≤ (Int32.ofInt 1 : Int32).toInt ∧ (Int32.ofInt 1 : Int32).toInt ≤ 1) (by decide) (by decide) (by decide) (by decide)
            have q_v_95065 : v_95065.toInt = x_95034.toInt + 1 := by rw [v_95065_e]; exact tr_addE h_95048 (⟨by decide, by decide⟩ : 1 ≤ (Int32.ofInt 1 : Int32).toInt ∧ (Int32.ofInt 1 : Int32).toInt ≤ 1) (by decide) (by decide)
            refine lv_iinc (v := v_95065) (lv' := [(6, .int v_95065), (5, .int 0), (0, .ref sv), (1, .ref pl), (2, .int p0), (3, .int p1), (4, .ref vs)]) hx hb dX6_findWorth_46 hl (k := 1) rfl v_95065_e.symm (by decide) rfl (fun ls hl => ?_)
            refine lv_goto (tgt := 6) hx hb dX6_findWorth_49 (by decide) ?_
            exact ih_95042 oct_95056 v_95065 0 opc_95050 oew_95051 ofr_95052 opl_95060 ovw_95054 ovp_95055 H _ ls (tr_w h_v_95065 (by decide) (by decide)) (⟨by decide, by decide⟩ : 0 ≤ (0 : Int32).toInt ∧ (0 : Int32).toInt ≤ 1) (tr_wa hf_95057 (by decide) (by decide)) (tr_wa hf_95061 (by decide) (by decide)) (by omega) (hP.sub [15, 0, 16, 17, 1, 18, 19, 20, 2, 3, 4, 5, 6, 7, 8, 9, 10, 11, 12, 13, 14, 23, 21, 22] rfl) (hD.sub [15, 0, 16, 17, 1, 18, 19, 20, 2, 3, 4, 5, 6, 7, 8, 9, 10, 11, 12, 13, 14, 23, 21, 22] (by decide) rfl) hS (lv_sub hl [0, 1, 2, 3, 4, 5, 6] rfl)
          · skip
            have c_95062_i := Int32.lt_iff_toInt_lt.mp (Int32.not_le.mp c_95062)
            have h_95064 : 1 ≤ (r_95059 : Int32).toInt ∧ (r_95059 : Int32).toInt ≤ 2147483647 := by have q1 := tr_any r_95059; have q2 := (⟨by decide, by decide⟩ : 0 ≤ (0 : Int32).toInt ∧ (0 : Int32).toInt ≤ 0); omega
            refine lv_iconst (v := 1) hx hb dX6_findWorth_39 (by decide) ?_
            refine lv_goto (tgt := 44) hx hb dX6_findWorth_40 (by decide) ?_
            refine lv_istore (lv' := [(5, .int 1), (6, .int x_95034), (0, .ref sv), (1, .ref pl), (2, .int p0), (3, .int p1), (4, .ref vs)]) hx hb dX6_findWorth_44 hl (by decide) rfl (fun ls hl => ?_)
            obtain ⟨v_95066, v_95066_e⟩ : ∃ y : Int32, y = x_95034 + Int32.ofInt 1 := ⟨_, rfl⟩
            have h_v_95066 : 1 ≤ (v_95066 : Int32).toInt ∧ (v_95066 : Int32).toInt ≤ 6561 := by rw [v_95066_e]; exact tr_add h_95048 (⟨by decide, by decide⟩ : 1 ≤ (Int32.ofInt 1 : Int32).toInt ∧ (Int32.ofInt 1 : Int32).toInt ≤ 1) (by decide) (by decide) (by decide) (by decide)
            have q_v_95066 : v_95066.toInt = x_95034.toInt + 1 := by rw [v_95066_e]; exact tr_addE h_95048 (⟨by decide, by decide⟩ : 1 ≤ (Int32.ofInt 1 : Int32).toInt ∧ (Int32.ofInt 1 : Int32).toInt ≤ 1) (by decide) (by decide)
            refine lv_iinc (v := v_95066) (lv' := [(6, .int v_95066), (5, .int 1), (0, .ref sv), (1, .ref pl), (2, .int p0), (3, .int p1), (4, .ref vs)]) hx hb dX6_findWorth_46 hl (k := 1) rfl v_95066_e.symm (by decide) rfl (fun ls hl => ?_)
            refine lv_goto (tgt := 6) hx hb dX6_findWorth_49 (by decide) ?_
            exact ih_95042 oct_95056 v_95066 1 opc_95050 oew_95051 ofr_95052 opl_95060 ovw_95054 ovp_95055 H _ ls (tr_w h_v_95066 (by decide) (by decide)) (⟨by decide, by decide⟩ : 0 ≤ (1 : Int32).toInt ∧ (1 : Int32).toInt ≤ 1) (tr_wa hf_95057 (by decide) (by decide)) (tr_wa hf_95061 (by decide) (by decide)) (by omega) (hP.sub [15, 0, 16, 17, 1, 18, 19, 20, 2, 3, 4, 5, 6, 7, 8, 9, 10, 11, 12, 13, 14, 23, 21, 22] rfl) (hD.sub [15, 0, 16, 17, 1, 18, 19, 20, 2, 3, 4, 5, 6, 7, 8, 9, 10, 11, 12, 13, 14, 23, 21, 22] (by decide) rfl) hS (lv_sub hl [0, 1, 2, 3, 4, 5, 6] rfl)
  exact lp_95042 2147483648 ct 0 1 pcf ew fr plf vsw vsp s.heap _ ls (⟨by decide, by decide⟩ : 0 ≤ (0 : Int32).toInt ∧ (0 : Int32).toInt ≤ 2147483647) (⟨by decide, by decide⟩ : 0 ≤ (1 : Int32).toInt ∧ (1 : Int32).toInt ≤ 1) (tr_wa h_pcf (by decide) (by decide)) (tr_wa h_plf (by decide) (by decide)) (by decide) (hP.sub [0, 1, 2, 3, 4, 5, 6, 7, 8, 9, 10, 11, 12, 13, 14, 15, 16, 17, 18, 19, 20, 21, 22, 23] rfl) (hD.sub [0, 1, 2, 3, 4, 5, 6, 7, 8, 9, 10, 11, 12, 13, 14, 15, 16, 17, 18, 19, 20, 21, 22, 23] (by decide) rfl) hS (lv_sub hl [0, 1, 2, 3, 4, 5, 6] rfl)
set_option maxHeartbeats 4000000 in
set_option maxRecDepth 100000 in
theorem c_X6_lowest (l : Launch) (D : va_G) (g : Nat → ClassId) (p0 : Int32) : Met l yX6_lowest (.code yX6_lowest cX6_lowest 2 (some .int) :: wsL_law) ({ frames := 0, cells := 0, slots := 0, locals := 0 }) (va_Pc [.int p0] (fun U => va_P D vwCl [] U.heap ∧ va_K D vwCl (TY g) U)) (vp_Si (fun r => 0 ≤ (r : Int32).toInt ∧ (r : Int32).toInt ≤ 2)) 0 0 (fun _ => False) := by
  refine Met.ofW (cc := cX6_lowest) (maxL := 2) (ret := (some .int)) (by decide) rfl ?_
  intro p e s m args below meth c s₁ B hml hv
  obtain ⟨ha, hP, hK⟩ := hv
  have hx := B.exec
  have hb := B.bytes
  have hr := B.returns
  have hts0 := atoms_spec (ws := (.code yX6_lowest cX6_lowest 2 (some .int) :: wsL_law)) B.pre
  have hts : ∀ w ∈ wsL_law, w.before args s = true := fun w h => hts0 w (List.mem_cons_of_mem _ h)
  have hown : s.vm.findClass RX6 = some m.cls := findClass_of_methodNamed B.named
  have hlocks := B.notSynchronized
  have hP : va_P D vwCl [] s.heap := hP
  refine W.eq (g2 := entryFrame m ([.int p0] : List Value).toArray 2) (by rw [ha]) ?_
  have hl := lv_entry ([.int p0]) (n := 2) (Nat.le_of_ble_eq_true rfl)
  rw [lg_entry_eq]
  generalize (lg_sl ([.int p0]) ++ List.replicate (2 - (lg_sl ([.int p0])).length) Slot.unset).toArray = ls at hl ⊢
  have hl : lv_has ls 2 [(0, .int p0)] := hl
  refine lv_iconst (v := 0) hx hb dX6_lowest_0 (by decide) ?_
  refine lv_istore_n (lv' := [(1, .int 0), (0, .int p0)]) hx hb dX6_lowest_1 rfl hl (by decide) rfl (fun ls hl => ?_)
  have lp_95095 : ∀ (n_95095 : Nat) (x_95094 : Int32) (ls : Array Slot), (0 ≤ (x_95094 : Int32).toInt ∧ (x_95094 : Int32).toInt ≤ 3) → (3 - x_95094.toInt < (n_95095 : Int)) → lv_has ls 2 [(1, .int x_95094), (0, .int p0)] → W p l e (headSpec (.code yX6_lowest cX6_lowest 2 (some .int) :: wsL_law) ({ frames := 0, cells := 0, slots := 0, locals := 0 })).room s m args below meth c s.heap [] 0 0 (MQ below (vp_Si (fun r => 0 ≤ (r : Int32).toInt ∧ (r : Int32).toInt ≤ 2)) args s 0 0 (fun _ => False)) (F0 m 2 ls []) := by
    intro n_95095
    induction n_95095 with
    | zero =>
      intro x_95094 ls h_x_95094 hm_95095 hl
      exfalso; omega
    | succ n_95095 ih_95095 =>
      intro x_95094 ls h_x_95094 hm_95095 hl
      refine lv_iload_n hx hb dX6_lowest_2 rfl (lv_at hl 0 rfl) ?_
      refine lv_iconst (v := 3) hx hb dX6_lowest_3 (by decide) ?_
      refine lv_icmp_ge (tgt := 23) hx hb dX6_lowest_4 (by decide) (fun c_95096 => ?_) (fun c_95096 => ?_)
      · skip
        have c_95096_i := Int32.le_iff_toInt_le.mp c_95096
        have h_95097 : 3 ≤ (x_95094 : Int32).toInt ∧ (x_95094 : Int32).toInt ≤ 3 := by have q1 := h_x_95094; have q2 := (⟨by decide, by decide⟩ : 3 ≤ (3 : Int32).toInt ∧ (3 : Int32).toInt ≤ 3); omega
        refine lv_iconst (v := 0) hx hb dX6_lowest_23 (by decide) ?_
        exact W.iret (v := 0) hx hb hr (fun t ht hW => ⟨0, rfl, (⟨by decide, by decide⟩ : 0 ≤ (0 : Int32).toInt ∧ (0 : Int32).toInt ≤ 2), ht⟩) (fun _ h => nomatch h) dX6_lowest_24
      · skip
        have c_95096_i := Int32.lt_iff_toInt_lt.mp (Int32.not_le.mp c_95096)
        have h_95098 : 0 ≤ (x_95094 : Int32).toInt ∧ (x_95094 : Int32).toInt ≤ 2 := by have q1 := h_x_95094; have q2 := (⟨by decide, by decide⟩ : 3 ≤ (3 : Int32).toInt ∧ (3 : Int32).toInt ≤ 3); omega
        refine lv_iload_n hx hb dX6_lowest_7 rfl (lv_at hl 1 rfl) ?_
        refine lv_iload_n hx hb dX6_lowest_8 rfl (lv_at hl 0 rfl) ?_
        refine lv_ishr hx hb dX6_lowest_9 ?_
        refine lv_topi (fun v_95099 v_95099_e => ?_)
        refine lv_iconst (v := 1) hx hb dX6_lowest_10 (by decide) ?_
        refine lv_iand hx hb dX6_lowest_11 ?_
        refine lv_topi (fun v_95100 v_95100_e => ?_)
        refine lv_if_eq (tgt := 17) hx hb dX6_lowest_12 (by decide) (fun c_95101 => ?_) (fun c_95101 => ?_)
        · skip
          have h_95102 : 0 ≤ (v_95100 : Int32).toInt ∧ (v_95100 : Int32).toInt ≤ 0 := by rw [c_95101]; exact ⟨by decide, by decide⟩
          obtain ⟨v_95103, v_95103_e⟩ : ∃ y : Int32, y = x_95094 + Int32.ofInt 1 := ⟨_, rfl⟩
          have h_v_95103 : 1 ≤ (v_95103 : Int32).toInt ∧ (v_95103 : Int32).toInt ≤ 3 := by rw [v_95103_e]; exact tr_add h_95098 (⟨by decide, by decide⟩ : 1 ≤ (Int32.ofInt 1 : Int32).toInt ∧ (Int32.ofInt 1 : Int32).toInt ≤ 1) (by decide) (by decide) (by decide) (by decide)
          have q_v_95103 : v_95103.toInt = x_95094.toInt + 1 := by rw [v_95103_e]; exact tr_addE h_95098 (⟨by decide, by decide⟩ : 1 ≤ (Int32.ofInt 1 : Int32).toInt ∧ (Int32.ofInt 1 : Int32).toInt ≤ 1) (by decide) (by decide)
          refine lv_iinc (v := v_95103) (lv' := [(1, .int v_95103), (0, .int p0)]) hx hb dX6_lowest_17 hl (k := 0) rfl v_95103_e.symm (by decide) rfl (fun ls hl => ?_)
          refine lv_goto (tgt := 2) hx hb dX6_lowest_20 (by decide) ?_
          exact ih_95095 v_95103 ls (tr_w h_v_95103 (by decide) (by decide)) (by omega) (lv_sub hl [0, 1] rfl)
        · skip
          refine lv_iload_n hx hb dX6_lowest_15 rfl (lv_at hl 0 rfl) ?_
          exact W.iret (v := x_95094) hx hb hr (fun t ht hW => ⟨x_95094, rfl, (tr_w h_95098 (by decide) (by decide)), ht⟩) (fun _ h => nomatch h) dX6_lowest_16
  exact lp_95095 4 0 ls (⟨by decide, by decide⟩ : 0 ≤ (0 : Int32).toInt ∧ (0 : Int32).toInt ≤ 3) (by decide) (lv_sub hl [0, 1] rfl)
set_option maxHeartbeats 4000000 in
set_option maxRecDepth 100000 in
theorem c_X6_keepEven (l : Launch) (D : va_G) (g : Nat → ClassId) (sz : Nat) (sv : Nat) (vs : Nat) (n : Nat) (co : Nat) (sv_keep : Nat) (sv_scaled : Nat) (n_nodes : Int32) (n_kind : Nat) (n_pay : Nat) (n_name : Nat) (n_ways : Nat) (n_held : Nat) (n_targets : Nat) (n_weights : Nat) (n_fkind : Nat → Int32) (n_fpay : Nat → Int32) (n_fways : Nat → Int32) (n_fheld : Nat → Int32) (n_ftargets : Nat → Int32) (vs_part : Nat) (vsw : Int64) (vsp : Nat → Int64) (kpf : Nat → Int32) (h_n_nodes : 0 ≤ (n_nodes : Int32).toInt ∧ (n_nodes : Int32).toInt ≤ 12) (h_n_fkind : ∀ j : Nat, 0 ≤ (n_fkind j).toInt ∧ (n_fkind j).toInt ≤ 3) (h_n_fways : ∀ j : Nat, 0 ≤ (n_fways j).toInt ∧ (n_fways j).toInt ≤ 3) (h_n_fheld : ∀ j : Nat, (-1) ≤ (n_fheld j).toInt ∧ (n_fheld j).toInt ≤ 2) (h_n_ftargets : ∀ j : Nat, 0 ≤ (n_ftargets j).toInt ∧ (n_ftargets j).toInt ≤ 11) : Met l yX6_keepEven (.code yX6_keepEven cX6_keepEven 4 none :: wsL_law) ({ frames := 1, cells := 0, slots := 0, locals := 22 }) (va_Pc [.ref sv, .ref vs] (fun U => U.heap.size = sz ∧ va_P D vwCl [(sv, .inr (6, [.ref n, .ref co, .ref sv_keep, .ref sv_scaled])), (n, .inr (2, [.int n_nodes, .ref n_kind, .ref n_pay, .ref n_name, .ref n_ways, .ref n_held, .ref n_targets, .ref n_weights])), (n_kind, .inl (g 0, 12, .inl n_fkind)), (n_pay, .inl (g 0, 12, .inl n_fpay)), (n_ways, .inl (g 0, 12, .inl n_fways)), (n_held, .inl (g 0, 12, .inl n_fheld)), (n_targets, .inl (g 0, 36, .inl n_ftargets)), (vs, .inr (10, [.ref vs_part, .long vsw])), (vs_part, .inl (g 1, 12, .inr (.inl vsp))), (sv_keep, .inl (g 0, 12, .inl kpf))] U.heap ∧ va_K D vwCl (TY g) U ∧ va_D (fun _ => True) [(sv, .inr (6, [.ref n, .ref co, .ref sv_keep, .ref sv_scaled])), (n, .inr (2, [.int n_nodes, .ref n_kind, .ref n_pay, .ref n_name, .ref n_ways, .ref n_held, .ref n_targets, .ref n_weights])), (n_kind, .inl (g 0, 12, .inl n_fkind)), (n_pay, .inl (g 0, 12, .inl n_fpay)), (n_ways, .inl (g 0, 12, .inl n_fways)), (n_held, .inl (g 0, 12, .inl n_fheld)), (n_targets, .inl (g 0, 36, .inl n_ftargets)), (vs, .inr (10, [.ref vs_part, .long vsw])), (vs_part, .inl (g 1, 12, .inr (.inl vsp))), (sv_keep, .inl (g 0, 12, .inl kpf))])) (va_Qv (fun (_ : Unit) => True) (fun _ t => ∃ okp : Nat → Int32, va_P D vwCl [(sv, .inr (6, [.ref n, .ref co, .ref sv_keep, .ref sv_scaled])), (n, .inr (2, [.int n_nodes, .ref n_kind, .ref n_pay, .ref n_name, .ref n_ways, .ref n_held, .ref n_targets, .ref n_weights])), (n_kind, .inl (g 0, 12, .inl n_fkind)), (n_pay, .inl (g 0, 12, .inl n_fpay)), (n_ways, .inl (g 0, 12, .inl n_fways)), (n_held, .inl (g 0, 12, .inl n_fheld)), (n_targets, .inl (g 0, 36, .inl n_ftargets)), (vs, .inr (10, [.ref vs_part, .long vsw])), (vs_part, .inl (g 1, 12, .inr (.inl vsp))), (sv_keep, .inl (g 0, 12, .inl okp))] t.heap ∧ va_D (va_A [(sv, .inr (6, [.ref n, .ref co, .ref sv_keep, .ref sv_scaled])), (n, .inr (2, [.int n_nodes, .ref n_kind, .ref n_pay, .ref n_name, .ref n_ways, .ref n_held, .ref n_targets, .ref n_weights])), (n_kind, .inl (g 0, 12, .inl n_fkind)), (n_pay, .inl (g 0, 12, .inl n_fpay)), (n_ways, .inl (g 0, 12, .inl n_fways)), (n_held, .inl (g 0, 12, .inl n_fheld)), (n_targets, .inl (g 0, 36, .inl n_ftargets)), (vs, .inr (10, [.ref vs_part, .long vsw])), (vs_part, .inl (g 1, 12, .inr (.inl vsp))), (sv_keep, .inl (g 0, 12, .inl kpf))] sz) [(sv, .inr (6, [.ref n, .ref co, .ref sv_keep, .ref sv_scaled])), (n, .inr (2, [.int n_nodes, .ref n_kind, .ref n_pay, .ref n_name, .ref n_ways, .ref n_held, .ref n_targets, .ref n_weights])), (n_kind, .inl (g 0, 12, .inl n_fkind)), (n_pay, .inl (g 0, 12, .inl n_fpay)), (n_ways, .inl (g 0, 12, .inl n_fways)), (n_held, .inl (g 0, 12, .inl n_fheld)), (n_targets, .inl (g 0, 36, .inl n_ftargets)), (vs, .inr (10, [.ref vs_part, .long vsw])), (vs_part, .inl (g 1, 12, .inr (.inl vsp))), (sv_keep, .inl (g 0, 12, .inl okp))]) (va_A [(sv, .inr (6, [.ref n, .ref co, .ref sv_keep, .ref sv_scaled])), (n, .inr (2, [.int n_nodes, .ref n_kind, .ref n_pay, .ref n_name, .ref n_ways, .ref n_held, .ref n_targets, .ref n_weights])), (n_kind, .inl (g 0, 12, .inl n_fkind)), (n_pay, .inl (g 0, 12, .inl n_fpay)), (n_ways, .inl (g 0, 12, .inl n_fways)), (n_held, .inl (g 0, 12, .inl n_fheld)), (n_targets, .inl (g 0, 36, .inl n_ftargets)), (vs, .inr (10, [.ref vs_part, .long vsw])), (vs_part, .inl (g 1, 12, .inr (.inl vsp))), (sv_keep, .inl (g 0, 12, .inl kpf))] sz)) 0 0 (va_A [(sv, .inr (6, [.ref n, .ref co, .ref sv_keep, .ref sv_scaled])), (n, .inr (2, [.int n_nodes, .ref n_kind, .ref n_pay, .ref n_name, .ref n_ways, .ref n_held, .ref n_targets, .ref n_weights])), (n_kind, .inl (g 0, 12, .inl n_fkind)), (n_pay, .inl (g 0, 12, .inl n_fpay)), (n_ways, .inl (g 0, 12, .inl n_fways)), (n_held, .inl (g 0, 12, .inl n_fheld)), (n_targets, .inl (g 0, 36, .inl n_ftargets)), (vs, .inr (10, [.ref vs_part, .long vsw])), (vs_part, .inl (g 1, 12, .inr (.inl vsp))), (sv_keep, .inl (g 0, 12, .inl kpf))] sz) := by
  refine Met.ofW (cc := cX6_keepEven) (maxL := 4) (ret := none) (by decide) rfl ?_
  intro p e s m args below meth c s₁ B hml hv
  obtain ⟨ha, hsz, hP, hK, hD0⟩ := hv
  have hx := B.exec
  have hb := B.bytes
  have hr := B.returns
  have hts0 := atoms_spec (ws := (.code yX6_keepEven cX6_keepEven 4 none :: wsL_law)) B.pre
  have hts : ∀ w ∈ wsL_law, w.before args s = true := fun w h => hts0 w (List.mem_cons_of_mem _ h)
  have hown : s.vm.findClass RX6 = some m.cls := findClass_of_methodNamed B.named
  have hlocks := B.notSynchronized
  subst hsz
  have hD := hD0.self (sz := s.heap.size)
  generalize hAe : va_A [(sv, .inr (6, [.ref n, .ref co, .ref sv_keep, .ref sv_scaled])), (n, .inr (2, [.int n_nodes, .ref n_kind, .ref n_pay, .ref n_name, .ref n_ways, .ref n_held, .ref n_targets, .ref n_weights])), (n_kind, .inl (g 0, 12, .inl n_fkind)), (n_pay, .inl (g 0, 12, .inl n_fpay)), (n_ways, .inl (g 0, 12, .inl n_fways)), (n_held, .inl (g 0, 12, .inl n_fheld)), (n_targets, .inl (g 0, 36, .inl n_ftargets)), (vs, .inr (10, [.ref vs_part, .long vsw])), (vs_part, .inl (g 1, 12, .inr (.inl vsp))), (sv_keep, .inl (g 0, 12, .inl kpf))] s.heap.size = A at hD ⊢
  have hA : ∀ q : Nat, s.heap.size ≤ q → A q := fun q h => by rw [← hAe]; exact Or.inr h
  have hS : va_S A s.heap s.heap [] := va_S.rf
  have hP : va_P D vwCl [(sv, .inr (6, [.ref n, .ref co, .ref sv_keep, .ref sv_scaled])), (n, .inr (2, [.int n_nodes, .ref n_kind, .ref n_pay, .ref n_name, .ref n_ways, .ref n_held, .ref n_targets, .ref n_weights])), (n_kind, .inl (g 0, 12, .inl n_fkind)), (n_pay, .inl (g 0, 12, .inl n_fpay)), (n_ways, .inl (g 0, 12, .inl n_fways)), (n_held, .inl (g 0, 12, .inl n_fheld)), (n_targets, .inl (g 0, 36, .inl n_ftargets)), (vs, .inr (10, [.ref vs_part, .long vsw])), (vs_part, .inl (g 1, 12, .inr (.inl vsp))), (sv_keep, .inl (g 0, 12, .inl kpf))] s.heap := hP
  refine W.eq (g2 := entryFrame m ([.ref sv, .ref vs] : List Value).toArray 4) (by rw [ha]) ?_
  have hl := lv_entry ([.ref sv, .ref vs]) (n := 4) (Nat.le_of_ble_eq_true rfl)
  rw [lg_entry_eq]
  generalize (lg_sl ([.ref sv, .ref vs]) ++ List.replicate (4 - (lg_sl ([.ref sv, .ref vs])).length) Slot.unset).toArray = ls at hl ⊢
  have hl : lv_has ls 4 [(0, .ref sv), (1, .ref vs)] := hl
  refine lv_iconst (v := 0) hx hb dX6_keepEven_0 (by decide) ?_
  refine lv_istore_n (lv' := [(2, .int 0), (0, .ref sv), (1, .ref vs)]) hx hb dX6_keepEven_1 rfl hl (by decide) rfl (fun ls hl => ?_)
  have lp_96139 : ∀ (n_96139 : Nat) (x_96137 : Int32) (f_96138 : Nat → Int32) (H : Heap) (locs : List Loc) (ls : Array Slot), (0 ≤ (x_96137 : Int32).toInt ∧ (x_96137 : Int32).toInt ≤ 12) → (12 - x_96137.toInt < (n_96139 : Int)) → va_P D vwCl [(sv, .inr (6, [.ref n, .ref co, .ref sv_keep, .ref sv_scaled])), (n, .inr (2, [.int n_nodes, .ref n_kind, .ref n_pay, .ref n_name, .ref n_ways, .ref n_held, .ref n_targets, .ref n_weights])), (n_kind, .inl (g 0, 12, .inl n_fkind)), (n_pay, .inl (g 0, 12, .inl n_fpay)), (n_ways, .inl (g 0, 12, .inl n_fways)), (n_held, .inl (g 0, 12, .inl n_fheld)), (n_targets, .inl (g 0, 36, .inl n_ftargets)), (vs, .inr (10, [.ref vs_part, .long vsw])), (vs_part, .inl (g 1, 12, .inr (.inl vsp))), (sv_keep, .inl (g 0, 12, .inl f_96138))] H → va_D A [(sv, .inr (6, [.ref n, .ref co, .ref sv_keep, .ref sv_scaled])), (n, .inr (2, [.int n_nodes, .ref n_kind, .ref n_pay, .ref n_name, .ref n_ways, .ref n_held, .ref n_targets, .ref n_weights])), (n_kind, .inl (g 0, 12, .inl n_fkind)), (n_pay, .inl (g 0, 12, .inl n_fpay)), (n_ways, .inl (g 0, 12, .inl n_fways)), (n_held, .inl (g 0, 12, .inl n_fheld)), (n_targets, .inl (g 0, 36, .inl n_ftargets)), (vs, .inr (10, [.ref vs_part, .long vsw])), (vs_part, .inl (g 1, 12, .inr (.inl vsp))), (sv_keep, .inl (g 0, 12, .inl f_96138))] → va_S A s.heap H locs → lv_has ls 4 [(2, .int x_96137), (0, .ref sv), (1, .ref vs)] → W p l e (headSpec (.code yX6_keepEven cX6_keepEven 4 none :: wsL_law) ({ frames := 1, cells := 0, slots := 0, locals := 22 })).room s m args below meth c H locs 0 0 (MQ below (va_Qv (fun (_ : Unit) => True) (fun _ t => ∃ okp : Nat → Int32, va_P D vwCl [(sv, .inr (6, [.ref n, .ref co, .ref sv_keep, .ref sv_scaled])), (n, .inr (2, [.int n_nodes, .ref n_kind, .ref n_pay, .ref n_name, .ref n_ways, .ref n_held, .ref n_targets, .ref n_weights])), (n_kind, .inl (g 0, 12, .inl n_fkind)), (n_pay, .inl (g 0, 12, .inl n_fpay)), (n_ways, .inl (g 0, 12, .inl n_fways)), (n_held, .inl (g 0, 12, .inl n_fheld)), (n_targets, .inl (g 0, 36, .inl n_ftargets)), (vs, .inr (10, [.ref vs_part, .long vsw])), (vs_part, .inl (g 1, 12, .inr (.inl vsp))), (sv_keep, .inl (g 0, 12, .inl okp))] t.heap ∧ va_D A [(sv, .inr (6, [.ref n, .ref co, .ref sv_keep, .ref sv_scaled])), (n, .inr (2, [.int n_nodes, .ref n_kind, .ref n_pay, .ref n_name, .ref n_ways, .ref n_held, .ref n_targets, .ref n_weights])), (n_kind, .inl (g 0, 12, .inl n_fkind)), (n_pay, .inl (g 0, 12, .inl n_fpay)), (n_ways, .inl (g 0, 12, .inl n_fways)), (n_held, .inl (g 0, 12, .inl n_fheld)), (n_targets, .inl (g 0, 36, .inl n_ftargets)), (vs, .inr (10, [.ref vs_part, .long vsw])), (vs_part, .inl (g 1, 12, .inr (.inl vsp))), (sv_keep, .inl (g 0, 12, .inl okp))]) A) args s 0 0 A) (F0 m 2 ls []) := by
    intro n_96139
    induction n_96139 with
    | zero =>
      intro x_96137 f_96138 H locs ls h_x_96137 hm_96139 hP hD hS hl
      exfalso; omega
    | succ n_96139 ih_96139 =>
      intro x_96137 f_96138 H locs ls h_x_96137 hm_96139 hP hD hS hl
      refine lv_iload_n hx hb dX6_keepEven_2 rfl (lv_at hl 0 rfl) ?_
      refine lv_aload_n hx hb dX6_keepEven_3 rfl (lv_at hl 1 rfl) ?_
      refine va_get (D := D) (ci := 6) (v := .ref n) (C := RX6) (T := TX6) (N := 4) hx hb hts inlX6 hown hK hP 0 rfl rfl 0 (by decide) (hts (Cond.fieldLink RX6 19 "ChanceRings$Solver" "net" "LChanceRings$Net;") qw_548) (fun _ h9 => h9) rfl dX6_keepEven_4 ?_
      refine va_get (D := D) (ci := 2) (v := .int n_nodes) (C := RX2) (T := TX2) (N := 8) hx hb hts inlX2 hown hK hP 1 rfl rfl 0 (by decide) (hts (Cond.fieldLink RX6 32 "ChanceRings$Net" "nodes" "I") qw_549) (fun _ h9 => h9) rfl dX6_keepEven_7 ?_
      refine lv_icmp_ge (tgt := 95) hx hb dX6_keepEven_10 (by decide) (fun c_96140 => ?_) (fun c_96140 => ?_)
      · skip
        have hP9 := hP.sub (ws' := [(sv, .inr (6, [.ref n, .ref co, .ref sv_keep, .ref sv_scaled])), (n, .inr (2, [.int n_nodes, .ref n_kind, .ref n_pay, .ref n_name, .ref n_ways, .ref n_held, .ref n_targets, .ref n_weights])), (n_kind, .inl (g 0, 12, .inl n_fkind)), (n_pay, .inl (g 0, 12, .inl n_fpay)), (n_ways, .inl (g 0, 12, .inl n_fways)), (n_held, .inl (g 0, 12, .inl n_fheld)), (n_targets, .inl (g 0, 36, .inl n_ftargets)), (vs, .inr (10, [.ref vs_part, .long vsw])), (vs_part, .inl (g 1, 12, .inr (.inl vsp))), (sv_keep, .inl (g 0, 12, .inl f_96138))]) [0, 1, 2, 3, 4, 5, 6, 7, 8, 9] rfl
        have hD9 := hD.sub (ws' := [(sv, .inr (6, [.ref n, .ref co, .ref sv_keep, .ref sv_scaled])), (n, .inr (2, [.int n_nodes, .ref n_kind, .ref n_pay, .ref n_name, .ref n_ways, .ref n_held, .ref n_targets, .ref n_weights])), (n_kind, .inl (g 0, 12, .inl n_fkind)), (n_pay, .inl (g 0, 12, .inl n_fpay)), (n_ways, .inl (g 0, 12, .inl n_fways)), (n_held, .inl (g 0, 12, .inl n_fheld)), (n_targets, .inl (g 0, 36, .inl n_ftargets)), (vs, .inr (10, [.ref vs_part, .long vsw])), (vs_part, .inl (g 1, 12, .inr (.inl vsp))), (sv_keep, .inl (g 0, 12, .inl f_96138))]) [0, 1, 2, 3, 4, 5, 6, 7, 8, 9] (by decide) rfl
        exact W.vret hx hb hr (fun t ht hW => ⟨⟨(), rfl, trivial, f_96138, by rw [ht]; exact hP9, hD9⟩, hS.F ht⟩) hS.2.2 dX6_keepEven_95
      · skip
        have c_96140_i := Int32.lt_iff_toInt_lt.mp (Int32.not_le.mp c_96140)
        have h_96141 : 0 ≤ (x_96137 : Int32).toInt ∧ (x_96137 : Int32).toInt ≤ 11 := by have q1 := h_x_96137; have q2 := h_n_nodes; omega
        have h_96142 : 1 ≤ (n_nodes : Int32).toInt ∧ (n_nodes : Int32).toInt ≤ 12 := by have q1 := h_x_96137; have q2 := h_n_nodes; omega
        refine lv_aload_n hx hb dX6_keepEven_13 rfl (lv_at hl 1 rfl) ?_
        refine va_get (D := D) (ci := 6) (v := .ref sv_keep) (C := RX6) (T := TX6) (N := 4) hx hb hts inlX6 hown hK hP 0 rfl rfl 2 (by decide) (hts (Cond.fieldLink RX6 9 "ChanceRings$Solver" "keep" "[I") qw_587) (fun _ h9 => h9) rfl dX6_keepEven_14 ?_
        refine lv_iload_n hx hb dX6_keepEven_17 rfl (lv_at hl 0 rfl) ?_
        refine lv_iconst (v := 0) hx hb dX6_keepEven_18 (by decide) ?_
        refine va_iast hx hb hK hP hD hS 9 0 rfl rfl (tr_in h_96141 (by decide) (by decide)) dX6_keepEven_19 (fun H locs hP hD hS => ?_)
        obtain ⟨f_96143, hP, hD⟩ : ∃ FX : Nat → Int32, va_P D vwCl [(sv, .inr (6, [.ref n, .ref co, .ref sv_keep, .ref sv_scaled])), (n, .inr (2, [.int n_nodes, .ref n_kind, .ref n_pay, .ref n_name, .ref n_ways, .ref n_held, .ref n_targets, .ref n_weights])), (n_kind, .inl (g 0, 12, .inl n_fkind)), (n_pay, .inl (g 0, 12, .inl n_fpay)), (n_ways, .inl (g 0, 12, .inl n_fways)), (n_held, .inl (g 0, 12, .inl n_fheld)), (n_targets, .inl (g 0, 36, .inl n_ftargets)), (vs, .inr (10, [.ref vs_part, .long vsw])), (vs_part, .inl (g 1, 12, .inr (.inl vsp))), (sv_keep, .inl (g 0, 12, .inl FX))] H ∧ va_D A [(sv, .inr (6, [.ref n, .ref co, .ref sv_keep, .ref sv_scaled])), (n, .inr (2, [.int n_nodes, .ref n_kind, .ref n_pay, .ref n_name, .ref n_ways, .ref n_held, .ref n_targets, .ref n_weights])), (n_kind, .inl (g 0, 12, .inl n_fkind)), (n_pay, .inl (g 0, 12, .inl n_fpay)), (n_ways, .inl (g 0, 12, .inl n_fways)), (n_held, .inl (g 0, 12, .inl n_fheld)), (n_targets, .inl (g 0, 36, .inl n_ftargets)), (vs, .inr (10, [.ref vs_part, .long vsw])), (vs_part, .inl (g 1, 12, .inr (.inl vsp))), (sv_keep, .inl (g 0, 12, .inl FX))] := ⟨_, hP, hD⟩
        have hP : va_P D vwCl [(sv, .inr (6, [.ref n, .ref co, .ref sv_keep, .ref sv_scaled])), (n, .inr (2, [.int n_nodes, .ref n_kind, .ref n_pay, .ref n_name, .ref n_ways, .ref n_held, .ref n_targets, .ref n_weights])), (n_kind, .inl (g 0, 12, .inl n_fkind)), (n_pay, .inl (g 0, 12, .inl n_fpay)), (n_ways, .inl (g 0, 12, .inl n_fways)), (n_held, .inl (g 0, 12, .inl n_fheld)), (n_targets, .inl (g 0, 36, .inl n_ftargets)), (vs, .inr (10, [.ref vs_part, .long vsw])), (vs_part, .inl (g 1, 12, .inr (.inl vsp))), (sv_keep, .inl (g 0, 12, .inl f_96143))] H := hP
        have hD : va_D A [(sv, .inr (6, [.ref n, .ref co, .ref sv_keep, .ref sv_scaled])), (n, .inr (2, [.int n_nodes, .ref n_kind, .ref n_pay, .ref n_name, .ref n_ways, .ref n_held, .ref n_targets, .ref n_weights])), (n_kind, .inl (g 0, 12, .inl n_fkind)), (n_pay, .inl (g 0, 12, .inl n_fpay)), (n_ways, .inl (g 0, 12, .inl n_fways)), (n_held, .inl (g 0, 12, .inl n_fheld)), (n_targets, .inl (g 0, 36, .inl n_ftargets)), (vs, .inr (10, [.ref vs_part, .long vsw])), (vs_part, .inl (g 1, 12, .inr (.inl vsp))), (sv_keep, .inl (g 0, 12, .inl f_96143))] := hD
        refine lv_iconst (v := 0) hx hb dX6_keepEven_20 (by decide) ?_
        refine lv_istore_n (lv' := [(3, .int 0), (2, .int x_96137), (0, .ref sv), (1, .ref vs)]) hx hb dX6_keepEven_21 rfl hl (by decide) rfl (fun ls hl => ?_)
        have lp_96244 : ∀ (n_96244 : Nat) (x_96242 : Int32) (f_96243 : Nat → Int32) (H : Heap) (locs : List Loc) (ls : Array Slot), (0 ≤ (x_96242 : Int32).toInt ∧ (x_96242 : Int32).toInt ≤ 3) → (3 - x_96242.toInt < (n_96244 : Int)) → va_P D vwCl [(sv, .inr (6, [.ref n, .ref co, .ref sv_keep, .ref sv_scaled])), (n, .inr (2, [.int n_nodes, .ref n_kind, .ref n_pay, .ref n_name, .ref n_ways, .ref n_held, .ref n_targets, .ref n_weights])), (n_kind, .inl (g 0, 12, .inl n_fkind)), (n_pay, .inl (g 0, 12, .inl n_fpay)), (n_ways, .inl (g 0, 12, .inl n_fways)), (n_held, .inl (g 0, 12, .inl n_fheld)), (n_targets, .inl (g 0, 36, .inl n_ftargets)), (vs, .inr (10, [.ref vs_part, .long vsw])), (vs_part, .inl (g 1, 12, .inr (.inl vsp))), (sv_keep, .inl (g 0, 12, .inl f_96243))] H → va_D A [(sv, .inr (6, [.ref n, .ref co, .ref sv_keep, .ref sv_scaled])), (n, .inr (2, [.int n_nodes, .ref n_kind, .ref n_pay, .ref n_name, .ref n_ways, .ref n_held, .ref n_targets, .ref n_weights])), (n_kind, .inl (g 0, 12, .inl n_fkind)), (n_pay, .inl (g 0, 12, .inl n_fpay)), (n_ways, .inl (g 0, 12, .inl n_fways)), (n_held, .inl (g 0, 12, .inl n_fheld)), (n_targets, .inl (g 0, 36, .inl n_ftargets)), (vs, .inr (10, [.ref vs_part, .long vsw])), (vs_part, .inl (g 1, 12, .inr (.inl vsp))), (sv_keep, .inl (g 0, 12, .inl f_96243))] → va_S A s.heap H locs → lv_has ls 4 [(3, .int x_96242), (2, .int x_96137), (0, .ref sv), (1, .ref vs)] → W p l e (headSpec (.code yX6_keepEven cX6_keepEven 4 none :: wsL_law) ({ frames := 1, cells := 0, slots := 0, locals := 22 })).room s m args below meth c H locs 0 0 (MQ below (va_Qv (fun (_ : Unit) => True) (fun _ t => ∃ okp : Nat → Int32, va_P D vwCl [(sv, .inr (6, [.ref n, .ref co, .ref sv_keep, .ref sv_scaled])), (n, .inr (2, [.int n_nodes, .ref n_kind, .ref n_pay, .ref n_name, .ref n_ways, .ref n_held, .ref n_targets, .ref n_weights])), (n_kind, .inl (g 0, 12, .inl n_fkind)), (n_pay, .inl (g 0, 12, .inl n_fpay)), (n_ways, .inl (g 0, 12, .inl n_fways)), (n_held, .inl (g 0, 12, .inl n_fheld)), (n_targets, .inl (g 0, 36, .inl n_ftargets)), (vs, .inr (10, [.ref vs_part, .long vsw])), (vs_part, .inl (g 1, 12, .inr (.inl vsp))), (sv_keep, .inl (g 0, 12, .inl okp))] t.heap ∧ va_D A [(sv, .inr (6, [.ref n, .ref co, .ref sv_keep, .ref sv_scaled])), (n, .inr (2, [.int n_nodes, .ref n_kind, .ref n_pay, .ref n_name, .ref n_ways, .ref n_held, .ref n_targets, .ref n_weights])), (n_kind, .inl (g 0, 12, .inl n_fkind)), (n_pay, .inl (g 0, 12, .inl n_fpay)), (n_ways, .inl (g 0, 12, .inl n_fways)), (n_held, .inl (g 0, 12, .inl n_fheld)), (n_targets, .inl (g 0, 36, .inl n_ftargets)), (vs, .inr (10, [.ref vs_part, .long vsw])), (vs_part, .inl (g 1, 12, .inr (.inl vsp))), (sv_keep, .inl (g 0, 12, .inl okp))]) A) args s 0 0 A) (F0 m 22 ls []) := by
          intro n_96244
          induction n_96244 with
          | zero =>
            intro x_96242 f_96243 H locs ls h_x_96242 hm_96244 hP hD hS hl
            exfalso; omega
          | succ n_96244 ih_96244 =>
            intro x_96242 f_96243 H locs ls h_x_96242 hm_96244 hP hD hS hl
            refine lv_iload_n hx hb dX6_keepEven_22 rfl (lv_at hl 0 rfl) ?_
            refine lv_aload_n hx hb dX6_keepEven_23 rfl (lv_at hl 2 rfl) ?_
            refine va_get (D := D) (ci := 6) (v := .ref n) (C := RX6) (T := TX6) (N := 4) hx hb hts inlX6 hown hK hP 0 rfl rfl 0 (by decide) (hts (Cond.fieldLink RX6 19 "ChanceRings$Solver" "net" "LChanceRings$Net;") qw_548) (fun _ h9 => h9) rfl dX6_keepEven_24 ?_
            refine va_get (D := D) (ci := 2) (v := .ref n_ways) (C := RX2) (T := TX2) (N := 8) hx hb hts inlX2 hown hK hP 1 rfl rfl 4 (by decide) (hts (Cond.fieldLink RX6 68 "ChanceRings$Net" "ways" "[I") qw_552) (fun _ h9 => h9) rfl dX6_keepEven_27 ?_
            refine lv_iload_n hx hb dX6_keepEven_30 rfl (lv_at hl 1 rfl) ?_
            refine va_iald hx hb hK hP 4 0 rfl rfl (tr_in h_96141 (by decide) (by decide)) dX6_keepEven_31 ?_
            refine lv_topi (fun v_96245 v_96245_e => ?_)
            have h_v_96245 : 0 ≤ (v_96245 : Int32).toInt ∧ (v_96245 : Int32).toInt ≤ 3 := by rw [v_96245_e]; exact h_n_fways _
            refine lv_icmp_ge (tgt := 89) hx hb dX6_keepEven_32 (by decide) (fun c_96246 => ?_) (fun c_96246 => ?_)
            · skip
              obtain ⟨v_96249, v_96249_e⟩ : ∃ y : Int32, y = x_96137 + Int32.ofInt 1 := ⟨_, rfl⟩
              have h_v_96249 : 1 ≤ (v_96249 : Int32).toInt ∧ (v_96249 : Int32).toInt ≤ 12 := by rw [v_96249_e]; exact tr_add h_96141 (⟨by decide, by decide⟩ : 1 ≤ (Int32.ofInt 1 : Int32).toInt ∧ (Int32.ofInt 1 : Int32).toInt ≤ 1) (by decide) (by decide) (by decide) (by decide)
              have q_v_96249 : v_96249.toInt = x_96137.toInt + 1 := by rw [v_96249_e]; exact tr_addE h_96141 (⟨by decide, by decide⟩ : 1 ≤ (Int32.ofInt 1 : Int32).toInt ∧ (Int32.ofInt 1 : Int32).toInt ≤ 1) (by decide) (by decide)
              refine lv_iinc (v := v_96249) (lv' := [(2, .int v_96249), (3, .int x_96242), (0, .ref sv), (1, .ref vs)]) hx hb dX6_keepEven_89 hl (k := 1) rfl v_96249_e.symm (by decide) rfl (fun ls hl => ?_)
              refine lv_goto (tgt := 2) hx hb dX6_keepEven_92 (by decide) ?_
              exact ih_96139 v_96249 f_96243 H _ ls (tr_w h_v_96249 (by decide) (by decide)) (by omega) (hP.sub [0, 1, 2, 3, 4, 5, 6, 7, 8, 9] rfl) (hD.sub [0, 1, 2, 3, 4, 5, 6, 7, 8, 9] (by decide) rfl) hS (lv_sub hl [0, 2, 3] rfl)
            · skip
              have c_96246_i := Int32.lt_iff_toInt_lt.mp (Int32.not_le.mp c_96246)
              have h_96247 : 0 ≤ (x_96242 : Int32).toInt ∧ (x_96242 : Int32).toInt ≤ 2 := by have q1 := h_x_96242; have q2 := h_v_96245; omega
              have h_96248 : 1 ≤ (v_96245 : Int32).toInt ∧ (v_96245 : Int32).toInt ≤ 3 := by have q1 := h_x_96242; have q2 := h_v_96245; omega
              refine lv_aload_n hx hb dX6_keepEven_35 rfl (lv_at hl 2 rfl) ?_
              refine va_get (D := D) (ci := 6) (v := .ref n) (C := RX6) (T := TX6) (N := 4) hx hb hts inlX6 hown hK hP 0 rfl rfl 0 (by decide) (hts (Cond.fieldLink RX6 19 "ChanceRings$Solver" "net" "LChanceRings$Net;") qw_548) (fun _ h9 => h9) rfl dX6_keepEven_36 ?_
              refine lv_iload_n hx hb dX6_keepEven_39 rfl (lv_at hl 1 rfl) ?_
              refine lv_iload_n hx hb dX6_keepEven_40 rfl (lv_at hl 0 rfl) ?_
              have hPc := hP.sub (ws' := [(n, .inr (2, [.int n_nodes, .ref n_kind, .ref n_pay, .ref n_name, .ref n_ways, .ref n_held, .ref n_targets, .ref n_weights])), (n_held, .inl (g 0, 12, .inl n_fheld))]) [1, 5] rfl
              refine vp_callSi (va_Run.run (va_runV (As := [.int x_96137, .int x_96242]) (rest := []) ⟨hx, hb, hml, hown, hts⟩ (c_X2_canTake l D g n x_96137 x_96242 n_nodes n_kind n_pay n_name n_ways n_held n_targets n_weights n_fheld (tr_w h_96141 (by decide) (by decide)) (tr_w h_96142 (by decide) (by decide)) (tr_wa h_n_fheld (by decide) (by decide))) (cwV 2 hts (tz_gV qw_588 qw_320 qw_321 qw_322 qw_323) rfl rfl rfl (by decide +kernel) ⟨Nat.le_of_ble_eq_true rfl, Nat.le_of_ble_eq_true rfl⟩) ⟨tz_blS, va_recv hK hPc (ci := 2) (q0 := 0) rfl rfl, tz_preS hPc hK⟩ rfl rfl hl.1 rfl (lv_room (Nat.le_of_ble_eq_true rfl)) dX6_keepEven_41 ⟨Nat.le_of_ble_eq_true rfl, Nat.le_of_ble_eq_true rfl⟩)) (fun r_96250 hw => ?_)
              have hw_96251 : 0 ≤ (r_96250 : Int32).toInt ∧ (r_96250 : Int32).toInt ≤ 1 := hw
              refine lv_if_eq (tgt := 83) hx hb dX6_keepEven_44 (by decide) (fun c_96252 => ?_) (fun c_96252 => ?_)
              · skip
                have c_96252_i := c_96252
                have c_96252_i : (r_96250 : Int32).toInt = (0 : Int32).toInt := congrArg Int32.toInt c_96252
                have h_96253 : 0 ≤ (r_96250 : Int32).toInt ∧ (r_96250 : Int32).toInt ≤ 0 := by have q1 := hw_96251; have q2 := (⟨by decide, by decide⟩ : 0 ≤ (0 : Int32).toInt ∧ (0 : Int32).toInt ≤ 0); omega
                obtain ⟨v_96255, v_96255_e⟩ : ∃ y : Int32, y = x_96242 + Int32.ofInt 1 := ⟨_, rfl⟩
                have h_v_96255 : 1 ≤ (v_96255 : Int32).toInt ∧ (v_96255 : Int32).toInt ≤ 3 := by rw [v_96255_e]; exact tr_add h_96247 (⟨by decide, by decide⟩ : 1 ≤ (Int32.ofInt 1 : Int32).toInt ∧ (Int32.ofInt 1 : Int32).toInt ≤ 1) (by decide) (by decide) (by decide) (by decide)
                have q_v_96255 : v_96255.toInt = x_96242.toInt + 1 := by rw [v_96255_e]; exact tr_addE h_96247 (⟨by decide, by decide⟩ : 1 ≤ (Int32.ofInt 1 : Int32).toInt ∧ (Int32.ofInt 1 : Int32).toInt ≤ 1) (by decide) (by decide)
                refine lv_iinc (v := v_96255) (lv' := [(3, .int v_96255), (2, .int x_96137), (0, .ref sv), (1, .ref vs)]) hx hb dX6_keepEven_83 hl (k := 0) rfl v_96255_e.symm (by decide) rfl (fun ls hl => ?_)
                refine lv_goto (tgt := 22) hx hb dX6_keepEven_86 (by decide) ?_
                exact ih_96244 v_96255 f_96243 H _ ls (tr_w h_v_96255 (by decide) (by decide)) (by omega) (hP.sub [0, 1, 2, 3, 4, 5, 6, 7, 8, 9] rfl) (hD.sub [0, 1, 2, 3, 4, 5, 6, 7, 8, 9] (by decide) rfl) hS (lv_sub hl [0, 1, 2, 3] rfl)
              · skip
                have c_96252_i := c_96252
                have c_96252_i : ¬ (r_96250 : Int32).toInt = (0 : Int32).toInt := (fun q => c_96252 (Int32.toInt_inj.mp q))
                have h_96254 : 1 ≤ (r_96250 : Int32).toInt ∧ (r_96250 : Int32).toInt ≤ 1 := by have q1 := hw_96251; have q2 := (⟨by decide, by decide⟩ : 0 ≤ (0 : Int32).toInt ∧ (0 : Int32).toInt ≤ 0); omega
                refine lv_aload_n hx hb dX6_keepEven_47 rfl (lv_at hl 3 rfl) ?_
                refine va_get (D := D) (ci := 10) (v := .ref vs_part) (C := RX10) (T := TX10) (N := 2) hx hb hts inlX10 hown hK hP 7 rfl rfl 0 (by decide) (hts (Cond.fieldLink RX6 71 "ChanceRings$Values" "part" "[J") qw_553) (fun _ h9 => h9) rfl dX6_keepEven_48 ?_
                refine lv_aload_n hx hb dX6_keepEven_51 rfl (lv_at hl 2 rfl) ?_
                refine va_get (D := D) (ci := 6) (v := .ref n) (C := RX6) (T := TX6) (N := 4) hx hb hts inlX6 hown hK hP 0 rfl rfl 0 (by decide) (hts (Cond.fieldLink RX6 19 "ChanceRings$Solver" "net" "LChanceRings$Net;") qw_548) (fun _ h9 => h9) rfl dX6_keepEven_52 ?_
                refine lv_iload_n hx hb dX6_keepEven_55 rfl (lv_at hl 1 rfl) ?_
                refine lv_iload_n hx hb dX6_keepEven_56 rfl (lv_at hl 0 rfl) ?_
                have hPc := hP.sub (ws' := [(n, .inr (2, [.int n_nodes, .ref n_kind, .ref n_pay, .ref n_name, .ref n_ways, .ref n_held, .ref n_targets, .ref n_weights])), (n_targets, .inl (g 0, 36, .inl n_ftargets))]) [1, 6] rfl
                refine vp_callSi (va_Run.run (va_runV (As := [.int x_96137, .int x_96242]) (rest := [.ref vs_part]) ⟨hx, hb, hml, hown, hts⟩ (c_X2_target l D g n x_96137 x_96242 n_nodes n_kind n_pay n_name n_ways n_held n_targets n_weights n_ftargets (tr_w h_96141 (by decide) (by decide)) (tr_w h_96247 (by decide) (by decide)) (tr_w h_96142 (by decide) (by decide)) (tr_wa h_n_ftargets (by decide) (by decide))) (cwV 2 hts (tz_gV qw_554 qw_325 qw_326 qw_322 qw_327) rfl rfl rfl (by decide +kernel) ⟨Nat.le_of_ble_eq_true rfl, Nat.le_of_ble_eq_true rfl⟩) ⟨tz_blS, va_recv hK hPc (ci := 2) (q0 := 0) rfl rfl, tz_preS hPc hK⟩ rfl rfl hl.1 rfl (lv_room (Nat.le_of_ble_eq_true rfl)) dX6_keepEven_57 ⟨Nat.le_of_ble_eq_true rfl, Nat.le_of_ble_eq_true rfl⟩)) (fun r_96256 hw => ?_)
                have hw_96257 : 0 ≤ (r_96256 : Int32).toInt ∧ (r_96256 : Int32).toInt ≤ 11 := hw
                refine va_lald hx hb hK hP 8 1 rfl rfl (tr_in hw_96257 (by decide) (by decide)) dX6_keepEven_60 ?_
                refine lv_topl (fun w_96258 _ => ?_)
                refine lv_aload_n hx hb dX6_keepEven_61 rfl (lv_at hl 3 rfl) ?_
                refine va_get (D := D) (ci := 10) (v := .ref vs_part) (C := RX10) (T := TX10) (N := 2) hx hb hts inlX10 hown hK hP 7 rfl rfl 0 (by decide) (hts (Cond.fieldLink RX6 71 "ChanceRings$Values" "part" "[J") qw_553) (fun _ h9 => h9) rfl dX6_keepEven_62 ?_
                refine lv_iload_n hx hb dX6_keepEven_65 rfl (lv_at hl 1 rfl) ?_
                refine va_lald hx hb hK hP 8 1 rfl rfl (tr_in h_96141 (by decide) (by decide)) dX6_keepEven_66 ?_
                refine lv_topl (fun w_96259 _ => ?_)
                refine W.lcmp hx hb dX6_keepEven_67 ?_
                refine lv_topi (fun v_96260 v_96260_e => ?_)
                have h_v_96260 : (-1) ≤ (v_96260 : Int32).toInt ∧ (v_96260 : Int32).toInt ≤ 1 := by rw [v_96260_e]; exact tr_cmp _ _
                refine lv_if_ne (tgt := 83) hx hb dX6_keepEven_68 (by decide) (fun c_96261 => ?_) (fun c_96261 => ?_)
                · skip
                  obtain ⟨v_96263, v_96263_e⟩ : ∃ y : Int32, y = x_96242 + Int32.ofInt 1 := ⟨_, rfl⟩
                  have h_v_96263 : 1 ≤ (v_96263 : Int32).toInt ∧ (v_96263 : Int32).toInt ≤ 3 := by rw [v_96263_e]; exact tr_add h_96247 (⟨by decide, by decide⟩ : 1 ≤ (Int32.ofInt 1 : Int32).toInt ∧ (Int32.ofInt 1 : Int32).toInt ≤ 1) (by decide) (by decide) (by decide) (by decide)
                  have q_v_96263 : v_96263.toInt = x_96242.toInt + 1 := by rw [v_96263_e]; exact tr_addE h_96247 (⟨by decide, by decide⟩ : 1 ≤ (Int32.ofInt 1 : Int32).toInt ∧ (Int32.ofInt 1 : Int32).toInt ≤ 1) (by decide) (by decide)
                  refine lv_iinc (v := v_96263) (lv' := [(3, .int v_96263), (2, .int x_96137), (0, .ref sv), (1, .ref vs)]) hx hb dX6_keepEven_83 hl (k := 0) rfl v_96263_e.symm (by decide) rfl (fun ls hl => ?_)
                  refine lv_goto (tgt := 22) hx hb dX6_keepEven_86 (by decide) ?_
                  exact ih_96244 v_96263 f_96243 H _ ls (tr_w h_v_96263 (by decide) (by decide)) (by omega) (hP.sub [0, 1, 2, 3, 4, 5, 6, 7, 8, 9] rfl) (hD.sub [0, 1, 2, 3, 4, 5, 6, 7, 8, 9] (by decide) rfl) hS (lv_sub hl [0, 1, 2, 3] rfl)
                · skip
                  have c_96261_i := c_96261
                  have c_96261_i : (v_96260 : Int32).toInt = (0 : Int32).toInt := congrArg Int32.toInt c_96261
                  have h_96262 : 0 ≤ (v_96260 : Int32).toInt ∧ (v_96260 : Int32).toInt ≤ 0 := by have q1 := h_v_96260; have q2 := (⟨by decide, by decide⟩ : 0 ≤ (0 : Int32).toInt ∧ (0 : Int32).toInt ≤ 0); omega
                  refine lv_aload_n hx hb dX6_keepEven_71 rfl (lv_at hl 2 rfl) ?_
                  refine va_get (D := D) (ci := 6) (v := .ref sv_keep) (C := RX6) (T := TX6) (N := 4) hx hb hts inlX6 hown hK hP 0 rfl rfl 2 (by decide) (hts (Cond.fieldLink RX6 9 "ChanceRings$Solver" "keep" "[I") qw_587) (fun _ h9 => h9) rfl dX6_keepEven_72 ?_
                  refine lv_iload_n hx hb dX6_keepEven_75 rfl (lv_at hl 1 rfl) ?_
                  refine lv_dup2_11 hx hb dX6_keepEven_76 rfl rfl ?_
                  refine va_iald hx hb hK hP 9 0 rfl rfl (tr_in h_96141 (by decide) (by decide)) dX6_keepEven_77 ?_
                  refine lv_topi (fun v_96264 v_96264_e => ?_)
                  refine lv_iconst (v := 1) hx hb dX6_keepEven_78 (by decide) ?_
                  refine lv_iload_n hx hb dX6_keepEven_79 rfl (lv_at hl 0 rfl) ?_
                  refine lv_ishl hx hb dX6_keepEven_80 ?_
                  refine lv_topi (fun v_96265 v_96265_e => ?_)
                  refine lv_ior hx hb dX6_keepEven_81 ?_
                  refine lv_topi (fun v_96266 v_96266_e => ?_)
                  refine va_iast hx hb hK hP hD hS 9 0 rfl rfl (tr_in h_96141 (by decide) (by decide)) dX6_keepEven_82 (fun H locs hP hD hS => ?_)
                  obtain ⟨f_96267, hP, hD⟩ : ∃ FX : Nat → Int32, va_P D vwCl [(sv, .inr (6, [.ref n, .ref co, .ref sv_keep, .ref sv_scaled])), (n, .inr (2, [.int n_nodes, .ref n_kind, .ref n_pay, .ref n_name, .ref n_ways, .ref n_held, .ref n_targets, .ref n_weights])), (n_kind, .inl (g 0, 12, .inl n_fkind)), (n_pay, .inl (g 0, 12, .inl n_fpay)), (n_ways, .inl (g 0, 12, .inl n_fways)), (n_held, .inl (g 0, 12, .inl n_fheld)), (n_targets, .inl (g 0, 36, .inl n_ftargets)), (vs, .inr (10, [.ref vs_part, .long vsw])), (vs_part, .inl (g 1, 12, .inr (.inl vsp))), (sv_keep, .inl (g 0, 12, .inl FX))] H ∧ va_D A [(sv, .inr (6, [.ref n, .ref co, .ref sv_keep, .ref sv_scaled])), (n, .inr (2, [.int n_nodes, .ref n_kind, .ref n_pay, .ref n_name, .ref n_ways, .ref n_held, .ref n_targets, .ref n_weights])), (n_kind, .inl (g 0, 12, .inl n_fkind)), (n_pay, .inl (g 0, 12, .inl n_fpay)), (n_ways, .inl (g 0, 12, .inl n_fways)), (n_held, .inl (g 0, 12, .inl n_fheld)), (n_targets, .inl (g 0, 36, .inl n_ftargets)), (vs, .inr (10, [.ref vs_part, .long vsw])), (vs_part, .inl (g 1, 12, .inr (.inl vsp))), (sv_keep, .inl (g 0, 12, .inl FX))] := ⟨_, hP, hD⟩
                  have hP : va_P D vwCl [(sv, .inr (6, [.ref n, .ref co, .ref sv_keep, .ref sv_scaled])), (n, .inr (2, [.int n_nodes, .ref n_kind, .ref n_pay, .ref n_name, .ref n_ways, .ref n_held, .ref n_targets, .ref n_weights])), (n_kind, .inl (g 0, 12, .inl n_fkind)), (n_pay, .inl (g 0, 12, .inl n_fpay)), (n_ways, .inl (g 0, 12, .inl n_fways)), (n_held, .inl (g 0, 12, .inl n_fheld)), (n_targets, .inl (g 0, 36, .inl n_ftargets)), (vs, .inr (10, [.ref vs_part, .long vsw])), (vs_part, .inl (g 1, 12, .inr (.inl vsp))), (sv_keep, .inl (g 0, 12, .inl f_96267))] H := hP
                  have hD : va_D A [(sv, .inr (6, [.ref n, .ref co, .ref sv_keep, .ref sv_scaled])), (n, .inr (2, [.int n_nodes, .ref n_kind, .ref n_pay, .ref n_name, .ref n_ways, .ref n_held, .ref n_targets, .ref n_weights])), (n_kind, .inl (g 0, 12, .inl n_fkind)), (n_pay, .inl (g 0, 12, .inl n_fpay)), (n_ways, .inl (g 0, 12, .inl n_fways)), (n_held, .inl (g 0, 12, .inl n_fheld)), (n_targets, .inl (g 0, 36, .inl n_ftargets)), (vs, .inr (10, [.ref vs_part, .long vsw])), (vs_part, .inl (g 1, 12, .inr (.inl vsp))), (sv_keep, .inl (g 0, 12, .inl f_96267))] := hD
                  obtain ⟨v_96268, v_96268_e⟩ : ∃ y : Int32, y = x_96242 + Int32.ofInt 1 := ⟨_, rfl⟩
                  have h_v_96268 : 1 ≤ (v_96268 : Int32).toInt ∧ (v_96268 : Int32).toInt ≤ 3 := by rw [v_96268_e]; exact tr_add h_96247 (⟨by decide, by decide⟩ : 1 ≤ (Int32.ofInt 1 : Int32).toInt ∧ (Int32.ofInt 1 : Int32).toInt ≤ 1) (by decide) (by decide) (by decide) (by decide)
                  have q_v_96268 : v_96268.toInt = x_96242.toInt + 1 := by rw [v_96268_e]; exact tr_addE h_96247 (⟨by decide, by decide⟩ : 1 ≤ (Int32.ofInt 1 : Int32).toInt ∧ (Int32.ofInt 1 : Int32).toInt ≤ 1) (by decide) (by decide)
                  refine lv_iinc (v := v_96268) (lv' := [(3, .int v_96268), (2, .int x_96137), (0, .ref sv), (1, .ref vs)]) hx hb dX6_keepEven_83 hl (k := 0) rfl v_96268_e.symm (by decide) rfl (fun ls hl => ?_)
                  refine lv_goto (tgt := 22) hx hb dX6_keepEven_86 (by decide) ?_
                  exact ih_96244 v_96268 f_96267 H _ ls (tr_w h_v_96268 (by decide) (by decide)) (by omega) (hP.sub [0, 1, 2, 3, 4, 5, 6, 7, 8, 9] rfl) (hD.sub [0, 1, 2, 3, 4, 5, 6, 7, 8, 9] (by decide) rfl) hS (lv_sub hl [0, 1, 2, 3] rfl)
        exact lp_96244 4 0 f_96143 H _ ls (⟨by decide, by decide⟩ : 0 ≤ (0 : Int32).toInt ∧ (0 : Int32).toInt ≤ 3) (by decide) (hP.sub [0, 1, 2, 3, 4, 5, 6, 7, 8, 9] rfl) (hD.sub [0, 1, 2, 3, 4, 5, 6, 7, 8, 9] (by decide) rfl) hS (lv_sub hl [0, 1, 2, 3] rfl)
  exact lp_96139 13 0 kpf s.heap _ ls (⟨by decide, by decide⟩ : 0 ≤ (0 : Int32).toInt ∧ (0 : Int32).toInt ≤ 12) (by decide) (hP.sub [0, 1, 2, 3, 4, 5, 6, 7, 8, 9] rfl) (hD.sub [0, 1, 2, 3, 4, 5, 6, 7, 8, 9] (by decide) rfl) hS (lv_sub hl [0, 1, 2] rfl)
set_option maxHeartbeats 4000000 in
set_option maxRecDepth 100000 in
theorem c_X6_isBrought (l : Launch) (D : va_G) (g : Nat → ClassId) (sv : Nat) (p0 : Int32) (p1 : Int32) (vs : Nat) (n : Nat) (co : Nat) (sv_keep : Nat) (sv_scaled : Nat) (n_nodes : Int32) (n_kind : Nat) (n_pay : Nat) (n_name : Nat) (n_ways : Nat) (n_held : Nat) (n_targets : Nat) (n_weights : Nat) (n_fkind : Nat → Int32) (n_fpay : Nat → Int32) (n_fways : Nat → Int32) (n_fheld : Nat → Int32) (n_ftargets : Nat → Int32) (vs_part : Nat) (vsw : Int64) (vsp : Nat → Int64) (kpf : Nat → Int32) (h_p0 : 0 ≤ (p0 : Int32).toInt ∧ (p0 : Int32).toInt ≤ 11) (h_n_nodes : 0 ≤ (n_nodes : Int32).toInt ∧ (n_nodes : Int32).toInt ≤ 12) (h_n_fkind : ∀ j : Nat, 0 ≤ (n_fkind j).toInt ∧ (n_fkind j).toInt ≤ 3) (h_n_fways : ∀ j : Nat, 0 ≤ (n_fways j).toInt ∧ (n_fways j).toInt ≤ 3) (h_n_fheld : ∀ j : Nat, (-1) ≤ (n_fheld j).toInt ∧ (n_fheld j).toInt ≤ 2) (h_n_ftargets : ∀ j : Nat, 0 ≤ (n_ftargets j).toInt ∧ (n_ftargets j).toInt ≤ 11) : Met l yX6_isBrought (.code yX6_isBrought cX6_isBrought 9 (some .boolean) :: wsL_law) ({ frames := 1, cells := 0, slots := 0, locals := 22 }) (va_Pc [.ref sv, .int p0, .int p1, .ref vs] (fun U => va_P D vwCl [(sv, .inr (6, [.ref n, .ref co, .ref sv_keep, .ref sv_scaled])), (n, .inr (2, [.int n_nodes, .ref n_kind, .ref n_pay, .ref n_name, .ref n_ways, .ref n_held, .ref n_targets, .ref n_weights])), (n_kind, .inl (g 0, 12, .inl n_fkind)), (n_pay, .inl (g 0, 12, .inl n_fpay)), (n_ways, .inl (g 0, 12, .inl n_fways)), (n_held, .inl (g 0, 12, .inl n_fheld)), (n_targets, .inl (g 0, 36, .inl n_ftargets)), (vs, .inr (10, [.ref vs_part, .long vsw])), (vs_part, .inl (g 1, 12, .inr (.inl vsp))), (sv_keep, .inl (g 0, 12, .inl kpf))] U.heap ∧ va_K D vwCl (TY g) U)) (vp_Si (fun r => 0 ≤ (r : Int32).toInt ∧ (r : Int32).toInt ≤ 1)) 0 0 (fun _ => False) := by
  refine Met.ofW (cc := cX6_isBrought) (maxL := 9) (ret := (some .boolean)) (by decide) rfl ?_
  intro p e s m args below meth c s₁ B hml hv
  obtain ⟨ha, hP, hK⟩ := hv
  have hx := B.exec
  have hb := B.bytes
  have hr := B.returns
  have hts0 := atoms_spec (ws := (.code yX6_isBrought cX6_isBrought 9 (some .boolean) :: wsL_law)) B.pre
  have hts : ∀ w ∈ wsL_law, w.before args s = true := fun w h => hts0 w (List.mem_cons_of_mem _ h)
  have hown : s.vm.findClass RX6 = some m.cls := findClass_of_methodNamed B.named
  have hlocks := B.notSynchronized
  have hP : va_P D vwCl [(sv, .inr (6, [.ref n, .ref co, .ref sv_keep, .ref sv_scaled])), (n, .inr (2, [.int n_nodes, .ref n_kind, .ref n_pay, .ref n_name, .ref n_ways, .ref n_held, .ref n_targets, .ref n_weights])), (n_kind, .inl (g 0, 12, .inl n_fkind)), (n_pay, .inl (g 0, 12, .inl n_fpay)), (n_ways, .inl (g 0, 12, .inl n_fways)), (n_held, .inl (g 0, 12, .inl n_fheld)), (n_targets, .inl (g 0, 36, .inl n_ftargets)), (vs, .inr (10, [.ref vs_part, .long vsw])), (vs_part, .inl (g 1, 12, .inr (.inl vsp))), (sv_keep, .inl (g 0, 12, .inl kpf))] s.heap := hP
  refine W.eq (g2 := entryFrame m ([.ref sv, .int p0, .int p1, .ref vs] : List Value).toArray 9) (by rw [ha]) ?_
  have hl := lv_entry ([.ref sv, .int p0, .int p1, .ref vs]) (n := 9) (Nat.le_of_ble_eq_true rfl)
  rw [lg_entry_eq]
  generalize (lg_sl ([.ref sv, .int p0, .int p1, .ref vs]) ++ List.replicate (9 - (lg_sl ([.ref sv, .int p0, .int p1, .ref vs])).length) Slot.unset).toArray = ls at hl ⊢
  have hl : lv_has ls 9 [(0, .ref sv), (1, .int p0), (2, .int p1), (3, .ref vs)] := hl
  refine lv_iconst (v := 0) hx hb dX6_isBrought_0 (by decide) ?_
  refine lv_istore (lv' := [(4, .int 0), (0, .ref sv), (1, .int p0), (2, .int p1), (3, .ref vs)]) hx hb dX6_isBrought_1 hl (by decide) rfl (fun ls hl => ?_)
  refine lv_iconst (v := 1) hx hb dX6_isBrought_3 (by decide) ?_
  refine lv_istore (lv' := [(5, .int 1), (4, .int 0), (0, .ref sv), (1, .int p0), (2, .int p1), (3, .ref vs)]) hx hb dX6_isBrought_4 hl (by decide) rfl (fun ls hl => ?_)
  refine lv_iconst (v := 0) hx hb dX6_isBrought_6 (by decide) ?_
  refine lv_istore (lv' := [(6, .int 0), (5, .int 1), (4, .int 0), (0, .ref sv), (1, .int p0), (2, .int p1), (3, .ref vs)]) hx hb dX6_isBrought_7 hl (by decide) rfl (fun ls hl => ?_)
  have lp_96485 : ∀ (n_96485 : Nat) (x_96482 : Int32) (x_96483 : Int32) (x_96484 : Int32) (ls : Array Slot), (0 ≤ (x_96482 : Int32).toInt ∧ (x_96482 : Int32).toInt ≤ 3) → (0 ≤ (x_96483 : Int32).toInt ∧ (x_96483 : Int32).toInt ≤ 1) → (0 ≤ (x_96484 : Int32).toInt ∧ (x_96484 : Int32).toInt ≤ 1) → (3 - x_96482.toInt < (n_96485 : Int)) → lv_has ls 9 [(6, .int x_96482), (5, .int x_96483), (4, .int x_96484), (0, .ref sv), (1, .int p0), (2, .int p1), (3, .ref vs)] → W p l e (headSpec (.code yX6_isBrought cX6_isBrought 9 (some .boolean) :: wsL_law) ({ frames := 1, cells := 0, slots := 0, locals := 22 })).room s m args below meth c s.heap [] 0 0 (MQ below (vp_Si (fun r => 0 ≤ (r : Int32).toInt ∧ (r : Int32).toInt ≤ 1)) args s 0 0 (fun _ => False)) (F0 m 9 ls []) := by
    intro n_96485
    induction n_96485 with
    | zero =>
      intro x_96482 x_96483 x_96484 ls h_x_96482 h_x_96483 h_x_96484 hm_96485 hl
      exfalso; omega
    | succ n_96485 ih_96485 =>
      intro x_96482 x_96483 x_96484 ls h_x_96482 h_x_96483 h_x_96484 hm_96485 hl
      refine lv_iload hx hb dX6_isBrought_9 (lv_at hl 0 rfl) ?_
      refine lv_aload_n hx hb dX6_isBrought_11 rfl (lv_at hl 3 rfl) ?_
      refine va_get (D := D) (ci := 6) (v := .ref n) (C := RX6) (T := TX6) (N := 4) hx hb hts inlX6 hown hK hP 0 rfl rfl 0 (by decide) (hts (Cond.fieldLink RX6 19 "ChanceRings$Solver" "net" "LChanceRings$Net;") qw_548) (fun _ h9 => h9) rfl dX6_isBrought_12 ?_
      refine va_get (D := D) (ci := 2) (v := .ref n_ways) (C := RX2) (T := TX2) (N := 8) hx hb hts inlX2 hown hK hP 1 rfl rfl 4 (by decide) (hts (Cond.fieldLink RX6 68 "ChanceRings$Net" "ways" "[I") qw_552) (fun _ h9 => h9) rfl dX6_isBrought_15 ?_
      refine lv_iload_n hx hb dX6_isBrought_18 rfl (lv_at hl 4 rfl) ?_
      refine va_iald hx hb hK hP 4 0 rfl rfl (tr_in h_p0 (by decide) (by decide)) dX6_isBrought_19 ?_
      refine lv_topi (fun v_96486 v_96486_e => ?_)
      have h_v_96486 : 0 ≤ (v_96486 : Int32).toInt ∧ (v_96486 : Int32).toInt ≤ 3 := by rw [v_96486_e]; exact h_n_fways _
      refine lv_icmp_ge (tgt := 133) hx hb dX6_isBrought_20 (by decide) (fun c_96487 => ?_) (fun c_96487 => ?_)
      · skip
        refine lv_aload_n hx hb dX6_isBrought_133 rfl (lv_at hl 3 rfl) ?_
        refine va_get (D := D) (ci := 6) (v := .ref n) (C := RX6) (T := TX6) (N := 4) hx hb hts inlX6 hown hK hP 0 rfl rfl 0 (by decide) (hts (Cond.fieldLink RX6 19 "ChanceRings$Solver" "net" "LChanceRings$Net;") qw_548) (fun _ h9 => h9) rfl dX6_isBrought_134 ?_
        refine va_get (D := D) (ci := 2) (v := .ref n_kind) (C := RX2) (T := TX2) (N := 8) hx hb hts inlX2 hown hK hP 1 rfl rfl 1 (by decide) (hts (Cond.fieldLink RX6 61 "ChanceRings$Net" "kind" "[I") qw_551) (fun _ h9 => h9) rfl dX6_isBrought_137 ?_
        refine lv_iload_n hx hb dX6_isBrought_140 rfl (lv_at hl 4 rfl) ?_
        refine va_iald hx hb hK hP 2 0 rfl rfl (tr_in h_p0 (by decide) (by decide)) dX6_isBrought_141 ?_
        refine lv_topi (fun v_96490 v_96490_e => ?_)
        have h_v_96490 : 0 ≤ (v_96490 : Int32).toInt ∧ (v_96490 : Int32).toInt ≤ 3 := by rw [v_96490_e]; exact h_n_fkind _
        refine lv_iconst (v := 2) hx hb dX6_isBrought_142 (by decide) ?_
        refine lv_icmp_ne (tgt := 164) hx hb dX6_isBrought_143 (by decide) (fun c_96491 => ?_) (fun c_96491 => ?_)
        · skip
          refine lv_iload hx hb dX6_isBrought_164 (lv_at hl 2 rfl) ?_
          exact W.zret (v := x_96484) hx hb hr (tr_z (tr_w h_x_96484 (by decide) (by decide))) (fun t ht hW => ⟨x_96484, rfl, (tr_w h_x_96484 (by decide) (by decide)), ht⟩) (fun _ h => nomatch h) dX6_isBrought_166
        · skip
          have c_96491_i := c_96491
          have c_96491_i : (v_96490 : Int32).toInt = (2 : Int32).toInt := congrArg Int32.toInt c_96491
          have h_96492 : 2 ≤ (v_96490 : Int32).toInt ∧ (v_96490 : Int32).toInt ≤ 2 := by have q1 := h_v_96490; have q2 := (⟨by decide, by decide⟩ : 2 ≤ (2 : Int32).toInt ∧ (2 : Int32).toInt ≤ 2); omega
          refine lv_iload hx hb dX6_isBrought_146 (lv_at hl 2 rfl) ?_
          refine lv_if_eq (tgt := 160) hx hb dX6_isBrought_148 (by decide) (fun c_96493 => ?_) (fun c_96493 => ?_)
          · skip
            have c_96493_i := c_96493
            have c_96493_i : (x_96484 : Int32).toInt = (0 : Int32).toInt := congrArg Int32.toInt c_96493
            have h_96494 : 0 ≤ (x_96484 : Int32).toInt ∧ (x_96484 : Int32).toInt ≤ 0 := by have q1 := h_x_96484; have q2 := (⟨by decide, by decide⟩ : 0 ≤ (0 : Int32).toInt ∧ (0 : Int32).toInt ≤ 0); omega
            refine lv_iconst (v := 0) hx hb dX6_isBrought_160 (by decide) ?_
            refine lv_goto (tgt := 166) hx hb dX6_isBrought_161 (by decide) ?_
            exact W.zret (v := 0) hx hb hr (by decide) (fun t ht hW => ⟨0, rfl, (⟨by decide, by decide⟩ : 0 ≤ (0 : Int32).toInt ∧ (0 : Int32).toInt ≤ 1), ht⟩) (fun _ h => nomatch h) dX6_isBrought_166
          · skip
            have c_96493_i := c_96493
            have c_96493_i : ¬ (x_96484 : Int32).toInt = (0 : Int32).toInt := (fun q => c_96493 (Int32.toInt_inj.mp q))
            have h_96495 : 1 ≤ (x_96484 : Int32).toInt ∧ (x_96484 : Int32).toInt ≤ 1 := by have q1 := h_x_96484; have q2 := (⟨by decide, by decide⟩ : 0 ≤ (0 : Int32).toInt ∧ (0 : Int32).toInt ≤ 0); omega
            refine lv_iload hx hb dX6_isBrought_151 (lv_at hl 1 rfl) ?_
            refine lv_if_eq (tgt := 160) hx hb dX6_isBrought_153 (by decide) (fun c_96496 => ?_) (fun c_96496 => ?_)
            · skip
              have c_96496_i := c_96496
              have c_96496_i : (x_96483 : Int32).toInt = (0 : Int32).toInt := congrArg Int32.toInt c_96496
              have h_96497 : 0 ≤ (x_96483 : Int32).toInt ∧ (x_96483 : Int32).toInt ≤ 0 := by have q1 := h_x_96483; have q2 := (⟨by decide, by decide⟩ : 0 ≤ (0 : Int32).toInt ∧ (0 : Int32).toInt ≤ 0); omega
              refine lv_iconst (v := 0) hx hb dX6_isBrought_160 (by decide) ?_
              refine lv_goto (tgt := 166) hx hb dX6_isBrought_161 (by decide) ?_
              exact W.zret (v := 0) hx hb hr (by decide) (fun t ht hW => ⟨0, rfl, (⟨by decide, by decide⟩ : 0 ≤ (0 : Int32).toInt ∧ (0 : Int32).toInt ≤ 1), ht⟩) (fun _ h => nomatch h) dX6_isBrought_166
            · skip
              have c_96496_i := c_96496
              have c_96496_i : ¬ (x_96483 : Int32).toInt = (0 : Int32).toInt := (fun q => c_96496 (Int32.toInt_inj.mp q))
              have h_96498 : 1 ≤ (x_96483 : Int32).toInt ∧ (x_96483 : Int32).toInt ≤ 1 := by have q1 := h_x_96483; have q2 := (⟨by decide, by decide⟩ : 0 ≤ (0 : Int32).toInt ∧ (0 : Int32).toInt ≤ 0); omega
              refine lv_iconst (v := 1) hx hb dX6_isBrought_156 (by decide) ?_
              refine lv_goto (tgt := 166) hx hb dX6_isBrought_157 (by decide) ?_
              exact W.zret (v := 1) hx hb hr (by decide) (fun t ht hW => ⟨1, rfl, (⟨by decide, by decide⟩ : 0 ≤ (1 : Int32).toInt ∧ (1 : Int32).toInt ≤ 1), ht⟩) (fun _ h => nomatch h) dX6_isBrought_166
      · skip
        have c_96487_i := Int32.lt_iff_toInt_lt.mp (Int32.not_le.mp c_96487)
        have h_96488 : 0 ≤ (x_96482 : Int32).toInt ∧ (x_96482 : Int32).toInt ≤ 2 := by have q1 := h_x_96482; have q2 := h_v_96486; omega
        have h_96489 : 1 ≤ (v_96486 : Int32).toInt ∧ (v_96486 : Int32).toInt ≤ 3 := by have q1 := h_x_96482; have q2 := h_v_96486; omega
        refine lv_aload_n hx hb dX6_isBrought_23 rfl (lv_at hl 3 rfl) ?_
        refine va_get (D := D) (ci := 6) (v := .ref n) (C := RX6) (T := TX6) (N := 4) hx hb hts inlX6 hown hK hP 0 rfl rfl 0 (by decide) (hts (Cond.fieldLink RX6 19 "ChanceRings$Solver" "net" "LChanceRings$Net;") qw_548) (fun _ h9 => h9) rfl dX6_isBrought_24 ?_
        refine lv_iload_n hx hb dX6_isBrought_27 rfl (lv_at hl 4 rfl) ?_
        refine lv_iload hx hb dX6_isBrought_28 (lv_at hl 0 rfl) ?_
        have hPc := hP.sub (ws' := [(n, .inr (2, [.int n_nodes, .ref n_kind, .ref n_pay, .ref n_name, .ref n_ways, .ref n_held, .ref n_targets, .ref n_weights])), (n_targets, .inl (g 0, 36, .inl n_ftargets))]) [1, 6] rfl
        refine vp_callSi (va_Run.run (va_runV (As := [.int p0, .int x_96482]) (rest := []) ⟨hx, hb, hml, hown, hts⟩ (c_X2_target l D g n p0 x_96482 n_nodes n_kind n_pay n_name n_ways n_held n_targets n_weights n_ftargets (tr_w h_p0 (by decide) (by decide)) (tr_w h_96488 (by decide) (by decide)) (tr_w h_n_nodes (by decide) (by decide)) (tr_wa h_n_ftargets (by decide) (by decide))) (cwV 2 hts (tz_gV qw_554 qw_325 qw_326 qw_322 qw_327) rfl rfl rfl (by decide +kernel) ⟨Nat.le_of_ble_eq_true rfl, Nat.le_of_ble_eq_true rfl⟩) ⟨tz_blS, va_recv hK hPc (ci := 2) (q0 := 0) rfl rfl, tz_preS hPc hK⟩ rfl rfl hl.1 rfl (lv_room (Nat.le_of_ble_eq_true rfl)) dX6_isBrought_30 ⟨Nat.le_of_ble_eq_true rfl, Nat.le_of_ble_eq_true rfl⟩)) (fun r_96499 hw => ?_)
        have hw_96500 : 0 ≤ (r_96499 : Int32).toInt ∧ (r_96499 : Int32).toInt ≤ 11 := hw
        refine lv_istore (lv' := [(7, .int r_96499), (6, .int x_96482), (5, .int x_96483), (4, .int x_96484), (0, .ref sv), (1, .int p0), (2, .int p1), (3, .ref vs)]) hx hb dX6_isBrought_33 hl (by decide) rfl (fun ls hl => ?_)
        refine lv_iload_n hx hb dX6_isBrought_35 rfl (lv_at hl 6 rfl) ?_
        refine lv_iload hx hb dX6_isBrought_36 (lv_at hl 0 rfl) ?_
        refine lv_ishr hx hb dX6_isBrought_38 ?_
        refine lv_topi (fun v_96501 v_96501_e => ?_)
        refine lv_iconst (v := 1) hx hb dX6_isBrought_39 (by decide) ?_
        refine lv_iand hx hb dX6_isBrought_40 ?_
        refine lv_topi (fun v_96502 v_96502_e => ?_)
        refine lv_if_eq (tgt := 48) hx hb dX6_isBrought_41 (by decide) (fun c_96503 => ?_) (fun c_96503 => ?_)
        · skip
          have h_96504 : 0 ≤ (v_96502 : Int32).toInt ∧ (v_96502 : Int32).toInt ≤ 0 := by rw [c_96503]; exact ⟨by decide, by decide⟩
          refine lv_iconst (v := 0) hx hb dX6_isBrought_48 (by decide) ?_
          refine lv_istore (lv' := [(8, .int 0), (7, .int r_96499), (6, .int x_96482), (5, .int x_96483), (4, .int x_96484), (0, .ref sv), (1, .int p0), (2, .int p1), (3, .ref vs)]) hx hb dX6_isBrought_49 hl (by decide) rfl (fun ls hl => ?_)
          refine lv_aload_n hx hb dX6_isBrought_51 rfl (lv_at hl 5 rfl) ?_
          refine va_get (D := D) (ci := 6) (v := .ref n) (C := RX6) (T := TX6) (N := 4) hx hb hts inlX6 hown hK hP 0 rfl rfl 0 (by decide) (hts (Cond.fieldLink RX6 19 "ChanceRings$Solver" "net" "LChanceRings$Net;") qw_548) (fun _ h9 => h9) rfl dX6_isBrought_52 ?_
          refine va_get (D := D) (ci := 2) (v := .ref n_kind) (C := RX2) (T := TX2) (N := 8) hx hb hts inlX2 hown hK hP 1 rfl rfl 1 (by decide) (hts (Cond.fieldLink RX6 61 "ChanceRings$Net" "kind" "[I") qw_551) (fun _ h9 => h9) rfl dX6_isBrought_55 ?_
          refine lv_iload_n hx hb dX6_isBrought_58 rfl (lv_at hl 6 rfl) ?_
          refine va_iald hx hb hK hP 2 0 rfl rfl (tr_in h_p0 (by decide) (by decide)) dX6_isBrought_59 ?_
          refine lv_topi (fun v_96505 v_96505_e => ?_)
          have h_v_96505 : 0 ≤ (v_96505 : Int32).toInt ∧ (v_96505 : Int32).toInt ≤ 3 := by rw [v_96505_e]; exact h_n_fkind _
          refine lv_iconst (v := 3) hx hb dX6_isBrought_60 (by decide) ?_
          refine lv_icmp_ne (tgt := 99) hx hb dX6_isBrought_61 (by decide) (fun c_96506 => ?_) (fun c_96506 => ?_)
          · skip
            have c_96506_i := c_96506
            have c_96506_i : ¬ (v_96505 : Int32).toInt = (3 : Int32).toInt := (fun q => c_96506 (Int32.toInt_inj.mp q))
            have h_96507 : 0 ≤ (v_96505 : Int32).toInt ∧ (v_96505 : Int32).toInt ≤ 2 := by have q1 := h_v_96505; have q2 := (⟨by decide, by decide⟩ : 3 ≤ (3 : Int32).toInt ∧ (3 : Int32).toInt ≤ 3); omega
            refine lv_aload_n hx hb dX6_isBrought_99 rfl (lv_at hl 5 rfl) ?_
            refine va_get (D := D) (ci := 6) (v := .ref sv_keep) (C := RX6) (T := TX6) (N := 4) hx hb hts inlX6 hown hK hP 0 rfl rfl 2 (by decide) (hts (Cond.fieldLink RX6 9 "ChanceRings$Solver" "keep" "[I") qw_587) (fun _ h9 => h9) rfl dX6_isBrought_100 ?_
            refine lv_iload_n hx hb dX6_isBrought_103 rfl (lv_at hl 6 rfl) ?_
            refine va_iald hx hb hK hP 9 0 rfl rfl (tr_in h_p0 (by decide) (by decide)) dX6_isBrought_104 ?_
            refine lv_topi (fun v_96509 v_96509_e => ?_)
            refine lv_iload hx hb dX6_isBrought_105 (lv_at hl 2 rfl) ?_
            refine lv_ishr hx hb dX6_isBrought_107 ?_
            refine lv_topi (fun v_96510 v_96510_e => ?_)
            refine lv_iconst (v := 1) hx hb dX6_isBrought_108 (by decide) ?_
            refine lv_iand hx hb dX6_isBrought_109 ?_
            refine lv_topi (fun v_96511 v_96511_e => ?_)
            refine lv_if_eq (tgt := 127) hx hb dX6_isBrought_110 (by decide) (fun c_96512 => ?_) (fun c_96512 => ?_)
            · skip
              have h_96513 : 0 ≤ (v_96511 : Int32).toInt ∧ (v_96511 : Int32).toInt ≤ 0 := by rw [c_96512]; exact ⟨by decide, by decide⟩
              obtain ⟨v_96514, v_96514_e⟩ : ∃ y : Int32, y = x_96482 + Int32.ofInt 1 := ⟨_, rfl⟩
              have h_v_96514 : 1 ≤ (v_96514 : Int32).toInt ∧ (v_96514 : Int32).toInt ≤ 3 := by rw [v_96514_e]; exact tr_add h_96488 (⟨by decide, by decide⟩ : 1 ≤ (Int32.ofInt 1 : Int32).toInt ∧ (Int32.ofInt 1 : Int32).toInt ≤ 1) (by decide) (by decide) (by decide) (by decide)
              have q_v_96514 : v_96514.toInt = x_96482.toInt + 1 := by rw [v_96514_e]; exact tr_addE h_96488 (⟨by decide, by decide⟩ : 1 ≤ (Int32.ofInt 1 : Int32).toInt ∧ (Int32.ofInt 1 : Int32).toInt ≤ 1) (by decide) (by decide)
              refine lv_iinc (v := v_96514) (lv' := [(6, .int v_96514), (8, .int 0), (7, .int r_96499), (5, .int x_96483), (4, .int x_96484), (0, .ref sv), (1, .int p0), (2, .int p1), (3, .ref vs)]) hx hb dX6_isBrought_127 hl (k := 2) rfl v_96514_e.symm (by decide) rfl (fun ls hl => ?_)
              refine lv_goto (tgt := 9) hx hb dX6_isBrought_130 (by decide) ?_
              exact ih_96485 v_96514 x_96483 x_96484 ls (tr_w h_v_96514 (by decide) (by decide)) (tr_w h_x_96483 (by decide) (by decide)) (tr_w h_x_96484 (by decide) (by decide)) (by omega) (lv_sub hl [0, 3, 4, 5, 6, 7, 8] rfl)
            · skip
              refine lv_iload hx hb dX6_isBrought_113 (lv_at hl 4 rfl) ?_
              refine lv_iload hx hb dX6_isBrought_115 (lv_at hl 0 rfl) ?_
              refine lv_ior hx hb dX6_isBrought_117 ?_
              refine lv_topi (fun v_96515 v_96515_e => ?_)
              have h_v_96515 : 0 ≤ (v_96515 : Int32).toInt ∧ (v_96515 : Int32).toInt ≤ 1 := by rw [v_96515_e]; exact tr_or01 (tr_w h_x_96484 (by decide) (by decide)) (⟨by decide, by decide⟩ : 0 ≤ (0 : Int32).toInt ∧ (0 : Int32).toInt ≤ 1)
              refine lv_istore (lv' := [(4, .int v_96515), (8, .int 0), (7, .int r_96499), (6, .int x_96482), (5, .int x_96483), (0, .ref sv), (1, .int p0), (2, .int p1), (3, .ref vs)]) hx hb dX6_isBrought_118 hl (by decide) rfl (fun ls hl => ?_)
              refine lv_iload hx hb dX6_isBrought_120 (lv_at hl 4 rfl) ?_
              refine lv_iload hx hb dX6_isBrought_122 (lv_at hl 1 rfl) ?_
              refine lv_iand hx hb dX6_isBrought_124 ?_
              refine lv_topi (fun v_96516 v_96516_e => ?_)
              have h_v_96516 : 0 ≤ (v_96516 : Int32).toInt ∧ (v_96516 : Int32).toInt ≤ 1 := by rw [v_96516_e]; exact tr_and01 (tr_w h_x_96483 (by decide) (by decide)) (⟨by decide, by decide⟩ : 0 ≤ (0 : Int32).toInt ∧ (0 : Int32).toInt ≤ 1)
              refine lv_istore (lv' := [(5, .int v_96516), (4, .int v_96515), (8, .int 0), (7, .int r_96499), (6, .int x_96482), (0, .ref sv), (1, .int p0), (2, .int p1), (3, .ref vs)]) hx hb dX6_isBrought_125 hl (by decide) rfl (fun ls hl => ?_)
              obtain ⟨v_96517, v_96517_e⟩ : ∃ y : Int32, y = x_96482 + Int32.ofInt 1 := ⟨_, rfl⟩
              have h_v_96517 : 1 ≤ (v_96517 : Int32).toInt ∧ (v_96517 : Int32).toInt ≤ 3 := by rw [v_96517_e]; exact tr_add h_96488 (⟨by decide, by decide⟩ : 1 ≤ (Int32.ofInt 1 : Int32).toInt ∧ (Int32.ofInt 1 : Int32).toInt ≤ 1) (by decide) (by decide) (by decide) (by decide)
              have q_v_96517 : v_96517.toInt = x_96482.toInt + 1 := by rw [v_96517_e]; exact tr_addE h_96488 (⟨by decide, by decide⟩ : 1 ≤ (Int32.ofInt 1 : Int32).toInt ∧ (Int32.ofInt 1 : Int32).toInt ≤ 1) (by decide) (by decide)
              refine lv_iinc (v := v_96517) (lv' := [(6, .int v_96517), (5, .int v_96516), (4, .int v_96515), (8, .int 0), (7, .int r_96499), (0, .ref sv), (1, .int p0), (2, .int p1), (3, .ref vs)]) hx hb dX6_isBrought_127 hl (k := 4) rfl v_96517_e.symm (by decide) rfl (fun ls hl => ?_)
              refine lv_goto (tgt := 9) hx hb dX6_isBrought_130 (by decide) ?_
              exact ih_96485 v_96517 v_96516 v_96515 ls (tr_w h_v_96517 (by decide) (by decide)) (tr_w h_v_96516 (by decide) (by decide)) (tr_w h_v_96515 (by decide) (by decide)) (by omega) (lv_sub hl [0, 1, 2, 5, 6, 7, 8] rfl)
          · skip
            have c_96506_i := c_96506
            have c_96506_i : (v_96505 : Int32).toInt = (3 : Int32).toInt := congrArg Int32.toInt c_96506
            have h_96508 : 3 ≤ (v_96505 : Int32).toInt ∧ (v_96505 : Int32).toInt ≤ 3 := by have q1 := h_v_96505; have q2 := (⟨by decide, by decide⟩ : 3 ≤ (3 : Int32).toInt ∧ (3 : Int32).toInt ≤ 3); omega
            refine lv_iload hx hb dX6_isBrought_64 (lv_at hl 4 rfl) ?_
            refine lv_iload hx hb dX6_isBrought_66 (lv_at hl 0 rfl) ?_
            refine lv_if_ne (tgt := 88) hx hb dX6_isBrought_68 (by decide) (fun h9 => (h9 (by decide)).elim) (fun _ => ?_)
            refine lv_aload_n hx hb dX6_isBrought_71 rfl (lv_at hl 8 rfl) ?_
            refine va_get (D := D) (ci := 10) (v := .ref vs_part) (C := RX10) (T := TX10) (N := 2) hx hb hts inlX10 hown hK hP 7 rfl rfl 0 (by decide) (hts (Cond.fieldLink RX6 71 "ChanceRings$Values" "part" "[J") qw_553) (fun _ h9 => h9) rfl dX6_isBrought_72 ?_
            refine lv_iload hx hb dX6_isBrought_75 (lv_at hl 1 rfl) ?_
            refine va_lald hx hb hK hP 8 1 rfl rfl (tr_in hw_96500 (by decide) (by decide)) dX6_isBrought_77 ?_
            refine lv_topl (fun w_96518 _ => ?_)
            refine lv_aload_n hx hb dX6_isBrought_78 rfl (lv_at hl 8 rfl) ?_
            refine va_get (D := D) (ci := 10) (v := .ref vs_part) (C := RX10) (T := TX10) (N := 2) hx hb hts inlX10 hown hK hP 7 rfl rfl 0 (by decide) (hts (Cond.fieldLink RX6 71 "ChanceRings$Values" "part" "[J") qw_553) (fun _ h9 => h9) rfl dX6_isBrought_79 ?_
            refine lv_iload_n hx hb dX6_isBrought_82 rfl (lv_at hl 6 rfl) ?_
            refine va_lald hx hb hK hP 8 1 rfl rfl (tr_in h_p0 (by decide) (by decide)) dX6_isBrought_83 ?_
            refine lv_topl (fun w_96519 _ => ?_)
            refine W.lcmp hx hb dX6_isBrought_84 ?_
            refine lv_topi (fun v_96520 v_96520_e => ?_)
            have h_v_96520 : (-1) ≤ (v_96520 : Int32).toInt ∧ (v_96520 : Int32).toInt ≤ 1 := by rw [v_96520_e]; exact tr_cmp _ _
            refine lv_if_eq (tgt := 92) hx hb dX6_isBrought_85 (by decide) (fun c_96521 => ?_) (fun c_96521 => ?_)
            · skip
              have c_96521_i := c_96521
              have c_96521_i : (v_96520 : Int32).toInt = (0 : Int32).toInt := congrArg Int32.toInt c_96521
              have h_96522 : 0 ≤ (v_96520 : Int32).toInt ∧ (v_96520 : Int32).toInt ≤ 0 := by have q1 := h_v_96520; have q2 := (⟨by decide, by decide⟩ : 0 ≤ (0 : Int32).toInt ∧ (0 : Int32).toInt ≤ 0); omega
              refine lv_iconst (v := 0) hx hb dX6_isBrought_92 (by decide) ?_
              refine lv_ior hx hb dX6_isBrought_93 ?_
              refine lv_topi (fun v_96523 v_96523_e => ?_)
              have h_v_96523 : 0 ≤ (v_96523 : Int32).toInt ∧ (v_96523 : Int32).toInt ≤ 1 := by rw [v_96523_e]; exact tr_or01 (tr_w h_x_96484 (by decide) (by decide)) (⟨by decide, by decide⟩ : 0 ≤ (0 : Int32).toInt ∧ (0 : Int32).toInt ≤ 1)
              refine lv_istore (lv' := [(4, .int v_96523), (8, .int 0), (7, .int r_96499), (6, .int x_96482), (5, .int x_96483), (0, .ref sv), (1, .int p0), (2, .int p1), (3, .ref vs)]) hx hb dX6_isBrought_94 hl (by decide) rfl (fun ls hl => ?_)
              refine lv_goto (tgt := 127) hx hb dX6_isBrought_96 (by decide) ?_
              obtain ⟨v_96524, v_96524_e⟩ : ∃ y : Int32, y = x_96482 + Int32.ofInt 1 := ⟨_, rfl⟩
              have h_v_96524 : 1 ≤ (v_96524 : Int32).toInt ∧ (v_96524 : Int32).toInt ≤ 3 := by rw [v_96524_e]; exact tr_add h_96488 (⟨by decide, by decide⟩ : 1 ≤ (Int32.ofInt 1 : Int32).toInt ∧ (Int32.ofInt 1 : Int32).toInt ≤ 1) (by decide) (by decide) (by decide) (by decide)
              have q_v_96524 : v_96524.toInt = x_96482.toInt + 1 := by rw [v_96524_e]; exact tr_addE h_96488 (⟨by decide, by decide⟩ : 1 ≤ (Int32.ofInt 1 : Int32).toInt ∧ (Int32.ofInt 1 : Int32).toInt ≤ 1) (by decide) (by decide)
              refine lv_iinc (v := v_96524) (lv' := [(6, .int v_96524), (4, .int v_96523), (8, .int 0), (7, .int r_96499), (5, .int x_96483), (0, .ref sv), (1, .int p0), (2, .int p1), (3, .ref vs)]) hx hb dX6_isBrought_127 hl (k := 3) rfl v_96524_e.symm (by decide) rfl (fun ls hl => ?_)
              refine lv_goto (tgt := 9) hx hb dX6_isBrought_130 (by decide) ?_
              exact ih_96485 v_96524 x_96483 v_96523 ls (tr_w h_v_96524 (by decide) (by decide)) (tr_w h_x_96483 (by decide) (by decide)) (tr_w h_v_96523 (by decide) (by decide)) (by omega) (lv_sub hl [0, 4, 1, 5, 6, 7, 8] rfl)
            · skip
              refine lv_iconst (v := 1) hx hb dX6_isBrought_88 (by decide) ?_
              refine lv_goto (tgt := 93) hx hb dX6_isBrought_89 (by decide) ?_
              refine lv_ior hx hb dX6_isBrought_93 ?_
              refine lv_topi (fun v_96525 v_96525_e => ?_)
              have h_v_96525 : 0 ≤ (v_96525 : Int32).toInt ∧ (v_96525 : Int32).toInt ≤ 1 := by rw [v_96525_e]; exact tr_or01 (tr_w h_x_96484 (by decide) (by decide)) (⟨by decide, by decide⟩ : 0 ≤ (1 : Int32).toInt ∧ (1 : Int32).toInt ≤ 1)
              refine lv_istore (lv' := [(4, .int v_96525), (8, .int 0), (7, .int r_96499), (6, .int x_96482), (5, .int x_96483), (0, .ref sv), (1, .int p0), (2, .int p1), (3, .ref vs)]) hx hb dX6_isBrought_94 hl (by decide) rfl (fun ls hl => ?_)
              refine lv_goto (tgt := 127) hx hb dX6_isBrought_96 (by decide) ?_
              obtain ⟨v_96526, v_96526_e⟩ : ∃ y : Int32, y = x_96482 + Int32.ofInt 1 := ⟨_, rfl⟩
              have h_v_96526 : 1 ≤ (v_96526 : Int32).toInt ∧ (v_96526 : Int32).toInt ≤ 3 := by rw [v_96526_e]; exact tr_add h_96488 (⟨by decide, by decide⟩ : 1 ≤ (Int32.ofInt 1 : Int32).toInt ∧ (Int32.ofInt 1 : Int32).toInt ≤ 1) (by decide) (by decide) (by decide) (by decide)
              have q_v_96526 : v_96526.toInt = x_96482.toInt + 1 := by rw [v_96526_e]; exact tr_addE h_96488 (⟨by decide, by decide⟩ : 1 ≤ (Int32.ofInt 1 : Int32).toInt ∧ (Int32.ofInt 1 : Int32).toInt ≤ 1) (by decide) (by decide)
              refine lv_iinc (v := v_96526) (lv' := [(6, .int v_96526), (4, .int v_96525), (8, .int 0), (7, .int r_96499), (5, .int x_96483), (0, .ref sv), (1, .int p0), (2, .int p1), (3, .ref vs)]) hx hb dX6_isBrought_127 hl (k := 3) rfl v_96526_e.symm (by decide) rfl (fun ls hl => ?_)
              refine lv_goto (tgt := 9) hx hb dX6_isBrought_130 (by decide) ?_
              exact ih_96485 v_96526 x_96483 v_96525 ls (tr_w h_v_96526 (by decide) (by decide)) (tr_w h_x_96483 (by decide) (by decide)) (tr_w h_v_96525 (by decide) (by decide)) (by omega) (lv_sub hl [0, 4, 1, 5, 6, 7, 8] rfl)
        · skip
          refine lv_iconst (v := 1) hx hb dX6_isBrought_44 (by decide) ?_
          refine lv_goto (tgt := 49) hx hb dX6_isBrought_45 (by decide) ?_
          refine lv_istore (lv' := [(8, .int 1), (7, .int r_96499), (6, .int x_96482), (5, .int x_96483), (4, .int x_96484), (0, .ref sv), (1, .int p0), (2, .int p1), (3, .ref vs)]) hx hb dX6_isBrought_49 hl (by decide) rfl (fun ls hl => ?_)
          refine lv_aload_n hx hb dX6_isBrought_51 rfl (lv_at hl 5 rfl) ?_
          refine va_get (D := D) (ci := 6) (v := .ref n) (C := RX6) (T := TX6) (N := 4) hx hb hts inlX6 hown hK hP 0 rfl rfl 0 (by decide) (hts (Cond.fieldLink RX6 19 "ChanceRings$Solver" "net" "LChanceRings$Net;") qw_548) (fun _ h9 => h9) rfl dX6_isBrought_52 ?_
          refine va_get (D := D) (ci := 2) (v := .ref n_kind) (C := RX2) (T := TX2) (N := 8) hx hb hts inlX2 hown hK hP 1 rfl rfl 1 (by decide) (hts (Cond.fieldLink RX6 61 "ChanceRings$Net" "kind" "[I") qw_551) (fun _ h9 => h9) rfl dX6_isBrought_55 ?_
          refine lv_iload_n hx hb dX6_isBrought_58 rfl (lv_at hl 6 rfl) ?_
          refine va_iald hx hb hK hP 2 0 rfl rfl (tr_in h_p0 (by decide) (by decide)) dX6_isBrought_59 ?_
          refine lv_topi (fun v_96527 v_96527_e => ?_)
          have h_v_96527 : 0 ≤ (v_96527 : Int32).toInt ∧ (v_96527 : Int32).toInt ≤ 3 := by rw [v_96527_e]; exact h_n_fkind _
          refine lv_iconst (v := 3) hx hb dX6_isBrought_60 (by decide) ?_
          refine lv_icmp_ne (tgt := 99) hx hb dX6_isBrought_61 (by decide) (fun c_96528 => ?_) (fun c_96528 => ?_)
          · skip
            have c_96528_i := c_96528
            have c_96528_i : ¬ (v_96527 : Int32).toInt = (3 : Int32).toInt := (fun q => c_96528 (Int32.toInt_inj.mp q))
            have h_96529 : 0 ≤ (v_96527 : Int32).toInt ∧ (v_96527 : Int32).toInt ≤ 2 := by have q1 := h_v_96527; have q2 := (⟨by decide, by decide⟩ : 3 ≤ (3 : Int32).toInt ∧ (3 : Int32).toInt ≤ 3); omega
            refine lv_aload_n hx hb dX6_isBrought_99 rfl (lv_at hl 5 rfl) ?_
            refine va_get (D := D) (ci := 6) (v := .ref sv_keep) (C := RX6) (T := TX6) (N := 4) hx hb hts inlX6 hown hK hP 0 rfl rfl 2 (by decide) (hts (Cond.fieldLink RX6 9 "ChanceRings$Solver" "keep" "[I") qw_587) (fun _ h9 => h9) rfl dX6_isBrought_100 ?_
            refine lv_iload_n hx hb dX6_isBrought_103 rfl (lv_at hl 6 rfl) ?_
            refine va_iald hx hb hK hP 9 0 rfl rfl (tr_in h_p0 (by decide) (by decide)) dX6_isBrought_104 ?_
            refine lv_topi (fun v_96531 v_96531_e => ?_)
            refine lv_iload hx hb dX6_isBrought_105 (lv_at hl 2 rfl) ?_
            refine lv_ishr hx hb dX6_isBrought_107 ?_
            refine lv_topi (fun v_96532 v_96532_e => ?_)
            refine lv_iconst (v := 1) hx hb dX6_isBrought_108 (by decide) ?_
            refine lv_iand hx hb dX6_isBrought_109 ?_
            refine lv_topi (fun v_96533 v_96533_e => ?_)
            refine lv_if_eq (tgt := 127) hx hb dX6_isBrought_110 (by decide) (fun c_96534 => ?_) (fun c_96534 => ?_)
            · skip
              have h_96535 : 0 ≤ (v_96533 : Int32).toInt ∧ (v_96533 : Int32).toInt ≤ 0 := by rw [c_96534]; exact ⟨by decide, by decide⟩
              obtain ⟨v_96536, v_96536_e⟩ : ∃ y : Int32, y = x_96482 + Int32.ofInt 1 := ⟨_, rfl⟩
              have h_v_96536 : 1 ≤ (v_96536 : Int32).toInt ∧ (v_96536 : Int32).toInt ≤ 3 := by rw [v_96536_e]; exact tr_add h_96488 (⟨by decide, by decide⟩ : 1 ≤ (Int32.ofInt 1 : Int32).toInt ∧ (Int32.ofInt 1 : Int32).toInt ≤ 1) (by decide) (by decide) (by decide) (by decide)
              have q_v_96536 : v_96536.toInt = x_96482.toInt + 1 := by rw [v_96536_e]; exact tr_addE h_96488 (⟨by decide, by decide⟩ : 1 ≤ (Int32.ofInt 1 : Int32).toInt ∧ (Int32.ofInt 1 : Int32).toInt ≤ 1) (by decide) (by decide)
              refine lv_iinc (v := v_96536) (lv' := [(6, .int v_96536), (8, .int 1), (7, .int r_96499), (5, .int x_96483), (4, .int x_96484), (0, .ref sv), (1, .int p0), (2, .int p1), (3, .ref vs)]) hx hb dX6_isBrought_127 hl (k := 2) rfl v_96536_e.symm (by decide) rfl (fun ls hl => ?_)
              refine lv_goto (tgt := 9) hx hb dX6_isBrought_130 (by decide) ?_
              exact ih_96485 v_96536 x_96483 x_96484 ls (tr_w h_v_96536 (by decide) (by decide)) (tr_w h_x_96483 (by decide) (by decide)) (tr_w h_x_96484 (by decide) (by decide)) (by omega) (lv_sub hl [0, 3, 4, 5, 6, 7, 8] rfl)
            · skip
              refine lv_iload hx hb dX6_isBrought_113 (lv_at hl 4 rfl) ?_
              refine lv_iload hx hb dX6_isBrought_115 (lv_at hl 0 rfl) ?_
              refine lv_ior hx hb dX6_isBrought_117 ?_
              refine lv_topi (fun v_96537 v_96537_e => ?_)
              have h_v_96537 : 0 ≤ (v_96537 : Int32).toInt ∧ (v_96537 : Int32).toInt ≤ 1 := by rw [v_96537_e]; exact tr_or01 (tr_w h_x_96484 (by decide) (by decide)) (⟨by decide, by decide⟩ : 0 ≤ (1 : Int32).toInt ∧ (1 : Int32).toInt ≤ 1)
              refine lv_istore (lv' := [(4, .int v_96537), (8, .int 1), (7, .int r_96499), (6, .int x_96482), (5, .int x_96483), (0, .ref sv), (1, .int p0), (2, .int p1), (3, .ref vs)]) hx hb dX6_isBrought_118 hl (by decide) rfl (fun ls hl => ?_)
              refine lv_iload hx hb dX6_isBrought_120 (lv_at hl 4 rfl) ?_
              refine lv_iload hx hb dX6_isBrought_122 (lv_at hl 1 rfl) ?_
              refine lv_iand hx hb dX6_isBrought_124 ?_
              refine lv_topi (fun v_96538 v_96538_e => ?_)
              have h_v_96538 : 0 ≤ (v_96538 : Int32).toInt ∧ (v_96538 : Int32).toInt ≤ 1 := by rw [v_96538_e]; exact tr_and01 (tr_w h_x_96483 (by decide) (by decide)) (⟨by decide, by decide⟩ : 0 ≤ (1 : Int32).toInt ∧ (1 : Int32).toInt ≤ 1)
              refine lv_istore (lv' := [(5, .int v_96538), (4, .int v_96537), (8, .int 1), (7, .int r_96499), (6, .int x_96482), (0, .ref sv), (1, .int p0), (2, .int p1), (3, .ref vs)]) hx hb dX6_isBrought_125 hl (by decide) rfl (fun ls hl => ?_)
              obtain ⟨v_96539, v_96539_e⟩ : ∃ y : Int32, y = x_96482 + Int32.ofInt 1 := ⟨_, rfl⟩
              have h_v_96539 : 1 ≤ (v_96539 : Int32).toInt ∧ (v_96539 : Int32).toInt ≤ 3 := by rw [v_96539_e]; exact tr_add h_96488 (⟨by decide, by decide⟩ : 1 ≤ (Int32.ofInt 1 : Int32).toInt ∧ (Int32.ofInt 1 : Int32).toInt ≤ 1) (by decide) (by decide) (by decide) (by decide)
              have q_v_96539 : v_96539.toInt = x_96482.toInt + 1 := by rw [v_96539_e]; exact tr_addE h_96488 (⟨by decide, by decide⟩ : 1 ≤ (Int32.ofInt 1 : Int32).toInt ∧ (Int32.ofInt 1 : Int32).toInt ≤ 1) (by decide) (by decide)
              refine lv_iinc (v := v_96539) (lv' := [(6, .int v_96539), (5, .int v_96538), (4, .int v_96537), (8, .int 1), (7, .int r_96499), (0, .ref sv), (1, .int p0), (2, .int p1), (3, .ref vs)]) hx hb dX6_isBrought_127 hl (k := 4) rfl v_96539_e.symm (by decide) rfl (fun ls hl => ?_)
              refine lv_goto (tgt := 9) hx hb dX6_isBrought_130 (by decide) ?_
              exact ih_96485 v_96539 v_96538 v_96537 ls (tr_w h_v_96539 (by decide) (by decide)) (tr_w h_v_96538 (by decide) (by decide)) (tr_w h_v_96537 (by decide) (by decide)) (by omega) (lv_sub hl [0, 1, 2, 5, 6, 7, 8] rfl)
          · skip
            have c_96528_i := c_96528
            have c_96528_i : (v_96527 : Int32).toInt = (3 : Int32).toInt := congrArg Int32.toInt c_96528
            have h_96530 : 3 ≤ (v_96527 : Int32).toInt ∧ (v_96527 : Int32).toInt ≤ 3 := by have q1 := h_v_96527; have q2 := (⟨by decide, by decide⟩ : 3 ≤ (3 : Int32).toInt ∧ (3 : Int32).toInt ≤ 3); omega
            refine lv_iload hx hb dX6_isBrought_64 (lv_at hl 4 rfl) ?_
            refine lv_iload hx hb dX6_isBrought_66 (lv_at hl 0 rfl) ?_
            refine lv_if_ne (tgt := 88) hx hb dX6_isBrought_68 (by decide) (fun _ => ?_) (fun h9 => absurd h9 (by decide))
            refine lv_iconst (v := 1) hx hb dX6_isBrought_88 (by decide) ?_
            refine lv_goto (tgt := 93) hx hb dX6_isBrought_89 (by decide) ?_
            refine lv_ior hx hb dX6_isBrought_93 ?_
            refine lv_topi (fun v_96540 v_96540_e => ?_)
            have h_v_96540 : 0 ≤ (v_96540 : Int32).toInt ∧ (v_96540 : Int32).toInt ≤ 1 := by rw [v_96540_e]; exact tr_or01 (tr_w h_x_96484 (by decide) (by decide)) (⟨by decide, by decide⟩ : 0 ≤ (1 : Int32).toInt ∧ (1 : Int32).toInt ≤ 1)
            refine lv_istore (lv' := [(4, .int v_96540), (8, .int 1), (7, .int r_96499), (6, .int x_96482), (5, .int x_96483), (0, .ref sv), (1, .int p0), (2, .int p1), (3, .ref vs)]) hx hb dX6_isBrought_94 hl (by decide) rfl (fun ls hl => ?_)
            refine lv_goto (tgt := 127) hx hb dX6_isBrought_96 (by decide) ?_
            obtain ⟨v_96541, v_96541_e⟩ : ∃ y : Int32, y = x_96482 + Int32.ofInt 1 := ⟨_, rfl⟩
            have h_v_96541 : 1 ≤ (v_96541 : Int32).toInt ∧ (v_96541 : Int32).toInt ≤ 3 := by rw [v_96541_e]; exact tr_add h_96488 (⟨by decide, by decide⟩ : 1 ≤ (Int32.ofInt 1 : Int32).toInt ∧ (Int32.ofInt 1 : Int32).toInt ≤ 1) (by decide) (by decide) (by decide) (by decide)
            have q_v_96541 : v_96541.toInt = x_96482.toInt + 1 := by rw [v_96541_e]; exact tr_addE h_96488 (⟨by decide, by decide⟩ : 1 ≤ (Int32.ofInt 1 : Int32).toInt ∧ (Int32.ofInt 1 : Int32).toInt ≤ 1) (by decide) (by decide)
            refine lv_iinc (v := v_96541) (lv' := [(6, .int v_96541), (4, .int v_96540), (8, .int 1), (7, .int r_96499), (5, .int x_96483), (0, .ref sv), (1, .int p0), (2, .int p1), (3, .ref vs)]) hx hb dX6_isBrought_127 hl (k := 3) rfl v_96541_e.symm (by decide) rfl (fun ls hl => ?_)
            refine lv_goto (tgt := 9) hx hb dX6_isBrought_130 (by decide) ?_
            exact ih_96485 v_96541 x_96483 v_96540 ls (tr_w h_v_96541 (by decide) (by decide)) (tr_w h_x_96483 (by decide) (by decide)) (tr_w h_v_96540 (by decide) (by decide)) (by omega) (lv_sub hl [0, 4, 1, 5, 6, 7, 8] rfl)
  exact lp_96485 4 0 1 0 ls (⟨by decide, by decide⟩ : 0 ≤ (0 : Int32).toInt ∧ (0 : Int32).toInt ≤ 3) (⟨by decide, by decide⟩ : 0 ≤ (1 : Int32).toInt ∧ (1 : Int32).toInt ≤ 1) (⟨by decide, by decide⟩ : 0 ≤ (0 : Int32).toInt ∧ (0 : Int32).toInt ≤ 1) (by decide) (lv_sub hl [0, 1, 2, 3, 4, 5, 6] rfl)
set_option maxHeartbeats 4000000 in
set_option maxRecDepth 100000 in
theorem c_X6_bringsAll (l : Launch) (D : va_G) (g : Nat → ClassId) (sv : Nat) (vs : Nat) (n : Nat) (co : Nat) (sv_keep : Nat) (sv_scaled : Nat) (n_nodes : Int32) (n_kind : Nat) (n_pay : Nat) (n_name : Nat) (n_ways : Nat) (n_held : Nat) (n_targets : Nat) (n_weights : Nat) (n_fkind : Nat → Int32) (n_fpay : Nat → Int32) (n_fways : Nat → Int32) (n_fheld : Nat → Int32) (n_ftargets : Nat → Int32) (vs_part : Nat) (vsw : Int64) (vsp : Nat → Int64) (kpf : Nat → Int32) (h_n_nodes : 0 ≤ (n_nodes : Int32).toInt ∧ (n_nodes : Int32).toInt ≤ 12) (h_n_fkind : ∀ j : Nat, 0 ≤ (n_fkind j).toInt ∧ (n_fkind j).toInt ≤ 3) (h_n_fways : ∀ j : Nat, 0 ≤ (n_fways j).toInt ∧ (n_fways j).toInt ≤ 3) (h_n_fheld : ∀ j : Nat, (-1) ≤ (n_fheld j).toInt ∧ (n_fheld j).toInt ≤ 2) (h_n_ftargets : ∀ j : Nat, 0 ≤ (n_ftargets j).toInt ∧ (n_ftargets j).toInt ≤ 11) : Met l yX6_bringsAll (.code yX6_bringsAll cX6_bringsAll 6 (some .boolean) :: wsL_law) ({ frames := 2, cells := 0, slots := 0, locals := 50 }) (va_Pc [.ref sv, .ref vs] (fun U => va_P D vwCl [(sv, .inr (6, [.ref n, .ref co, .ref sv_keep, .ref sv_scaled])), (n, .inr (2, [.int n_nodes, .ref n_kind, .ref n_pay, .ref n_name, .ref n_ways, .ref n_held, .ref n_targets, .ref n_weights])), (n_kind, .inl (g 0, 12, .inl n_fkind)), (n_pay, .inl (g 0, 12, .inl n_fpay)), (n_ways, .inl (g 0, 12, .inl n_fways)), (n_held, .inl (g 0, 12, .inl n_fheld)), (n_targets, .inl (g 0, 36, .inl n_ftargets)), (vs, .inr (10, [.ref vs_part, .long vsw])), (vs_part, .inl (g 1, 12, .inr (.inl vsp))), (sv_keep, .inl (g 0, 12, .inl kpf))] U.heap ∧ va_K D vwCl (TY g) U)) (vp_Si (fun r => 0 ≤ (r : Int32).toInt ∧ (r : Int32).toInt ≤ 1)) 0 0 (fun _ => False) := by
  refine Met.ofW (cc := cX6_bringsAll) (maxL := 6) (ret := (some .boolean)) (by decide) rfl ?_
  intro p e s m args below meth c s₁ B hml hv
  obtain ⟨ha, hP, hK⟩ := hv
  have hx := B.exec
  have hb := B.bytes
  have hr := B.returns
  have hts0 := atoms_spec (ws := (.code yX6_bringsAll cX6_bringsAll 6 (some .boolean) :: wsL_law)) B.pre
  have hts : ∀ w ∈ wsL_law, w.before args s = true := fun w h => hts0 w (List.mem_cons_of_mem _ h)
  have hown : s.vm.findClass RX6 = some m.cls := findClass_of_methodNamed B.named
  have hlocks := B.notSynchronized
  have hP : va_P D vwCl [(sv, .inr (6, [.ref n, .ref co, .ref sv_keep, .ref sv_scaled])), (n, .inr (2, [.int n_nodes, .ref n_kind, .ref n_pay, .ref n_name, .ref n_ways, .ref n_held, .ref n_targets, .ref n_weights])), (n_kind, .inl (g 0, 12, .inl n_fkind)), (n_pay, .inl (g 0, 12, .inl n_fpay)), (n_ways, .inl (g 0, 12, .inl n_fways)), (n_held, .inl (g 0, 12, .inl n_fheld)), (n_targets, .inl (g 0, 36, .inl n_ftargets)), (vs, .inr (10, [.ref vs_part, .long vsw])), (vs_part, .inl (g 1, 12, .inr (.inl vsp))), (sv_keep, .inl (g 0, 12, .inl kpf))] s.heap := hP
  refine W.eq (g2 := entryFrame m ([.ref sv, .ref vs] : List Value).toArray 6) (by rw [ha]) ?_
  have hl := lv_entry ([.ref sv, .ref vs]) (n := 6) (Nat.le_of_ble_eq_true rfl)
  rw [lg_entry_eq]
  generalize (lg_sl ([.ref sv, .ref vs]) ++ List.replicate (6 - (lg_sl ([.ref sv, .ref vs])).length) Slot.unset).toArray = ls at hl ⊢
  have hl : lv_has ls 6 [(0, .ref sv), (1, .ref vs)] := hl
  refine lv_aload_n hx hb dX6_bringsAll_0 rfl (lv_at hl 0 rfl) ?_
  refine va_get (D := D) (ci := 6) (v := .ref n) (C := RX6) (T := TX6) (N := 4) hx hb hts inlX6 hown hK hP 0 rfl rfl 0 (by decide) (hts (Cond.fieldLink RX6 19 "ChanceRings$Solver" "net" "LChanceRings$Net;") qw_548) (fun _ h9 => h9) rfl dX6_bringsAll_1 ?_
  have hPc := hP.sub (ws' := [(n, .inr (2, [.int n_nodes, .ref n_kind, .ref n_pay, .ref n_name, .ref n_ways, .ref n_held, .ref n_targets, .ref n_weights])), (n_kind, .inl (g 0, 12, .inl n_fkind)), (n_pay, .inl (g 0, 12, .inl n_fpay))]) [1, 2, 3] rfl
  refine vp_callSi (va_Run.run (va_runV (As := []) (rest := []) ⟨hx, hb, hml, hown, hts⟩ (c_X2_payingEnds l D g n n_nodes n_kind n_pay n_name n_ways n_held n_targets n_weights n_fkind n_fpay (tr_w h_n_nodes (by decide) (by decide)) (tr_wa h_n_fkind (by decide) (by decide))) (cwV 0 hts (tz_gV qw_564 qw_505 qw_506 qw_322 qw_507) rfl rfl rfl (by decide +kernel) ⟨Nat.le_of_ble_eq_true rfl, Nat.le_of_ble_eq_true rfl⟩) ⟨tz_blS, va_recv hK hPc (ci := 2) (q0 := 0) rfl rfl, tz_preS hPc hK⟩ rfl rfl hl.1 rfl (lv_room (Nat.le_of_ble_eq_true rfl)) dX6_bringsAll_4 ⟨Nat.le_of_ble_eq_true rfl, Nat.le_of_ble_eq_true rfl⟩)) (fun r_96542 hw => ?_)
  refine lv_istore_n (lv' := [(2, .int r_96542), (0, .ref sv), (1, .ref vs)]) hx hb dX6_bringsAll_7 rfl hl (by decide) rfl (fun ls hl => ?_)
  refine lv_iconst (v := (-1)) hx hb dX6_bringsAll_8 (by decide) ?_
  refine lv_istore_n (lv' := [(3, .int (-1)), (2, .int r_96542), (0, .ref sv), (1, .ref vs)]) hx hb dX6_bringsAll_9 rfl hl (by decide) rfl (fun ls hl => ?_)
  refine lv_iconst (v := 0) hx hb dX6_bringsAll_10 (by decide) ?_
  refine lv_istore (lv' := [(4, .int 0), (3, .int (-1)), (2, .int r_96542), (0, .ref sv), (1, .ref vs)]) hx hb dX6_bringsAll_11 hl (by decide) rfl (fun ls hl => ?_)
  have lp_99228 : ∀ (n_99228 : Nat) (x_99225 : Int32) (x_99226 : Int32) (x_99227 : Int32) (ls : Array Slot), (0 ≤ (x_99225 : Int32).toInt ∧ (x_99225 : Int32).toInt ≤ 12) → (12 - x_99225.toInt < (n_99228 : Int)) → lv_has ls 6 [(4, .int x_99225), (3, .int x_99226), (2, .int x_99227), (0, .ref sv), (1, .ref vs)] → W p l e (headSpec (.code yX6_bringsAll cX6_bringsAll 6 (some .boolean) :: wsL_law) ({ frames := 2, cells := 0, slots := 0, locals := 50 })).room s m args below meth c s.heap [] 0 0 (MQ below (vp_Si (fun r => 0 ≤ (r : Int32).toInt ∧ (r : Int32).toInt ≤ 1)) args s 0 0 (fun _ => False)) (F0 m 13 ls []) := by
    intro n_99228
    induction n_99228 with
    | zero =>
      intro x_99225 x_99226 x_99227 ls h_x_99225 hm_99228 hl
      exfalso; omega
    | succ n_99228 ih_99228 =>
      intro x_99225 x_99226 x_99227 ls h_x_99225 hm_99228 hl
      refine lv_iload hx hb dX6_bringsAll_13 (lv_at hl 0 rfl) ?_
      refine lv_bipush (v := 12) hx hb dX6_bringsAll_15 (by decide) ?_
      refine lv_icmp_ge (tgt := 84) hx hb dX6_bringsAll_17 (by decide) (fun c_99229 => ?_) (fun c_99229 => ?_)
      · skip
        have c_99229_i := Int32.le_iff_toInt_le.mp c_99229
        have h_99230 : 12 ≤ (x_99225 : Int32).toInt ∧ (x_99225 : Int32).toInt ≤ 12 := by have q1 := h_x_99225; have q2 := (⟨by decide, by decide⟩ : 12 ≤ (12 : Int32).toInt ∧ (12 : Int32).toInt ≤ 12); omega
        refine lv_iconst (v := 0) hx hb dX6_bringsAll_84 (by decide) ?_
        refine lv_istore (lv' := [(4, .int 0), (3, .int x_99226), (2, .int x_99227), (0, .ref sv), (1, .ref vs)]) hx hb dX6_bringsAll_85 hl (by decide) rfl (fun ls hl => ?_)
        have lp_99350 : ∀ (n_99350 : Nat) (x_99349 : Int32) (ls : Array Slot), (0 ≤ (x_99349 : Int32).toInt ∧ (x_99349 : Int32).toInt ≤ 12) → (12 - x_99349.toInt < (n_99350 : Int)) → lv_has ls 6 [(4, .int x_99349), (3, .int x_99226), (2, .int x_99227), (0, .ref sv), (1, .ref vs)] → W p l e (headSpec (.code yX6_bringsAll cX6_bringsAll 6 (some .boolean) :: wsL_law) ({ frames := 2, cells := 0, slots := 0, locals := 50 })).room s m args below meth c s.heap [] 0 0 (MQ below (vp_Si (fun r => 0 ≤ (r : Int32).toInt ∧ (r : Int32).toInt ≤ 1)) args s 0 0 (fun _ => False)) (F0 m 87 ls []) := by
          intro n_99350
          induction n_99350 with
          | zero =>
            intro x_99349 ls h_x_99349 hm_99350 hl
            exfalso; omega
          | succ n_99350 ih_99350 =>
            intro x_99349 ls h_x_99349 hm_99350 hl
            refine lv_iload hx hb dX6_bringsAll_87 (lv_at hl 0 rfl) ?_
            refine lv_aload_n hx hb dX6_bringsAll_89 rfl (lv_at hl 3 rfl) ?_
            refine va_get (D := D) (ci := 6) (v := .ref n) (C := RX6) (T := TX6) (N := 4) hx hb hts inlX6 hown hK hP 0 rfl rfl 0 (by decide) (hts (Cond.fieldLink RX6 19 "ChanceRings$Solver" "net" "LChanceRings$Net;") qw_548) (fun _ h9 => h9) rfl dX6_bringsAll_90 ?_
            refine va_get (D := D) (ci := 2) (v := .int n_nodes) (C := RX2) (T := TX2) (N := 8) hx hb hts inlX2 hown hK hP 1 rfl rfl 0 (by decide) (hts (Cond.fieldLink RX6 32 "ChanceRings$Net" "nodes" "I") qw_549) (fun _ h9 => h9) rfl dX6_bringsAll_93 ?_
            refine lv_icmp_ge (tgt := 128) hx hb dX6_bringsAll_96 (by decide) (fun c_99351 => ?_) (fun c_99351 => ?_)
            · skip
              refine lv_iconst (v := 1) hx hb dX6_bringsAll_128 (by decide) ?_
              exact W.zret (v := 1) hx hb hr (by decide) (fun t ht hW => ⟨1, rfl, (⟨by decide, by decide⟩ : 0 ≤ (1 : Int32).toInt ∧ (1 : Int32).toInt ≤ 1), ht⟩) (fun _ h => nomatch h) dX6_bringsAll_129
            · skip
              have c_99351_i := Int32.lt_iff_toInt_lt.mp (Int32.not_le.mp c_99351)
              have h_99352 : 0 ≤ (x_99349 : Int32).toInt ∧ (x_99349 : Int32).toInt ≤ 11 := by have q1 := h_x_99349; have q2 := h_n_nodes; omega
              have h_99353 : 1 ≤ (n_nodes : Int32).toInt ∧ (n_nodes : Int32).toInt ≤ 12 := by have q1 := h_x_99349; have q2 := h_n_nodes; omega
              refine lv_aload_n hx hb dX6_bringsAll_99 rfl (lv_at hl 4 rfl) ?_
              refine va_get (D := D) (ci := 10) (v := .ref vs_part) (C := RX10) (T := TX10) (N := 2) hx hb hts inlX10 hown hK hP 7 rfl rfl 0 (by decide) (hts (Cond.fieldLink RX6 71 "ChanceRings$Values" "part" "[J") qw_553) (fun _ h9 => h9) rfl dX6_bringsAll_100 ?_
              refine lv_iload hx hb dX6_bringsAll_103 (lv_at hl 0 rfl) ?_
              refine va_lald hx hb hK hP 8 1 rfl rfl (tr_in h_99352 (by decide) (by decide)) dX6_bringsAll_105 ?_
              refine lv_topl (fun w_99354 _ => ?_)
              refine lv_lconst (v := 0) hx hb dX6_bringsAll_106 (by decide) ?_
              refine W.lcmp hx hb dX6_bringsAll_107 ?_
              refine lv_topi (fun v_99355 v_99355_e => ?_)
              have h_v_99355 : (-1) ≤ (v_99355 : Int32).toInt ∧ (v_99355 : Int32).toInt ≤ 1 := by rw [v_99355_e]; exact tr_cmp _ _
              refine lv_if_le (tgt := 122) hx hb dX6_bringsAll_108 (by decide) (fun c_99356 => ?_) (fun c_99356 => ?_)
              · skip
                have c_99356_i := Int32.le_iff_toInt_le.mp c_99356
                have h_99357 : (-1) ≤ (v_99355 : Int32).toInt ∧ (v_99355 : Int32).toInt ≤ 0 := by have q1 := h_v_99355; have q2 := (⟨by decide, by decide⟩ : 0 ≤ (0 : Int32).toInt ∧ (0 : Int32).toInt ≤ 0); omega
                obtain ⟨v_99359, v_99359_e⟩ : ∃ y : Int32, y = x_99349 + Int32.ofInt 1 := ⟨_, rfl⟩
                have h_v_99359 : 1 ≤ (v_99359 : Int32).toInt ∧ (v_99359 : Int32).toInt ≤ 12 := by rw [v_99359_e]; exact tr_add h_99352 (⟨by decide, by decide⟩ : 1 ≤ (Int32.ofInt 1 : Int32).toInt ∧ (Int32.ofInt 1 : Int32).toInt ≤ 1) (by decide) (by decide) (by decide) (by decide)
                have q_v_99359 : v_99359.toInt = x_99349.toInt + 1 := by rw [v_99359_e]; exact tr_addE h_99352 (⟨by decide, by decide⟩ : 1 ≤ (Int32.ofInt 1 : Int32).toInt ∧ (Int32.ofInt 1 : Int32).toInt ≤ 1) (by decide) (by decide)
                refine lv_iinc (v := v_99359) (lv' := [(4, .int v_99359), (3, .int x_99226), (2, .int x_99227), (0, .ref sv), (1, .ref vs)]) hx hb dX6_bringsAll_122 hl (k := 0) rfl v_99359_e.symm (by decide) rfl (fun ls hl => ?_)
                refine lv_goto (tgt := 87) hx hb dX6_bringsAll_125 (by decide) ?_
                exact ih_99350 v_99359 ls (tr_w h_v_99359 (by decide) (by decide)) (by omega) (lv_sub hl [0, 1, 2, 3, 4] rfl)
              · skip
                have c_99356_i := Int32.lt_iff_toInt_lt.mp (Int32.not_le.mp c_99356)
                have h_99358 : 1 ≤ (v_99355 : Int32).toInt ∧ (v_99355 : Int32).toInt ≤ 1 := by have q1 := h_v_99355; have q2 := (⟨by decide, by decide⟩ : 0 ≤ (0 : Int32).toInt ∧ (0 : Int32).toInt ≤ 0); omega
                refine lv_iload_n hx hb dX6_bringsAll_111 rfl (lv_at hl 2 rfl) ?_
                refine lv_iload hx hb dX6_bringsAll_112 (lv_at hl 0 rfl) ?_
                refine lv_ishr hx hb dX6_bringsAll_114 ?_
                refine lv_topi (fun v_99360 v_99360_e => ?_)
                refine lv_iconst (v := 1) hx hb dX6_bringsAll_115 (by decide) ?_
                refine lv_iand hx hb dX6_bringsAll_116 ?_
                refine lv_topi (fun v_99361 v_99361_e => ?_)
                refine lv_if_ne (tgt := 122) hx hb dX6_bringsAll_117 (by decide) (fun c_99362 => ?_) (fun c_99362 => ?_)
                · skip
                  obtain ⟨v_99364, v_99364_e⟩ : ∃ y : Int32, y = x_99349 + Int32.ofInt 1 := ⟨_, rfl⟩
                  have h_v_99364 : 1 ≤ (v_99364 : Int32).toInt ∧ (v_99364 : Int32).toInt ≤ 12 := by rw [v_99364_e]; exact tr_add h_99352 (⟨by decide, by decide⟩ : 1 ≤ (Int32.ofInt 1 : Int32).toInt ∧ (Int32.ofInt 1 : Int32).toInt ≤ 1) (by decide) (by decide) (by decide) (by decide)
                  have q_v_99364 : v_99364.toInt = x_99349.toInt + 1 := by rw [v_99364_e]; exact tr_addE h_99352 (⟨by decide, by decide⟩ : 1 ≤ (Int32.ofInt 1 : Int32).toInt ∧ (Int32.ofInt 1 : Int32).toInt ≤ 1) (by decide) (by decide)
                  refine lv_iinc (v := v_99364) (lv' := [(4, .int v_99364), (3, .int x_99226), (2, .int x_99227), (0, .ref sv), (1, .ref vs)]) hx hb dX6_bringsAll_122 hl (k := 0) rfl v_99364_e.symm (by decide) rfl (fun ls hl => ?_)
                  refine lv_goto (tgt := 87) hx hb dX6_bringsAll_125 (by decide) ?_
                  exact ih_99350 v_99364 ls (tr_w h_v_99364 (by decide) (by decide)) (by omega) (lv_sub hl [0, 1, 2, 3, 4] rfl)
                · skip
                  have h_99363 : 0 ≤ (v_99361 : Int32).toInt ∧ (v_99361 : Int32).toInt ≤ 0 := by rw [c_99362]; exact ⟨by decide, by decide⟩
                  refine lv_iconst (v := 0) hx hb dX6_bringsAll_120 (by decide) ?_
                  exact W.zret (v := 0) hx hb hr (by decide) (fun t ht hW => ⟨0, rfl, (⟨by decide, by decide⟩ : 0 ≤ (0 : Int32).toInt ∧ (0 : Int32).toInt ≤ 1), ht⟩) (fun _ h => nomatch h) dX6_bringsAll_121
        exact lp_99350 13 0 ls (⟨by decide, by decide⟩ : 0 ≤ (0 : Int32).toInt ∧ (0 : Int32).toInt ≤ 12) (by decide) (lv_sub hl [0, 1, 2, 3, 4] rfl)
      · skip
        have c_99229_i := Int32.lt_iff_toInt_lt.mp (Int32.not_le.mp c_99229)
        have h_99231 : 0 ≤ (x_99225 : Int32).toInt ∧ (x_99225 : Int32).toInt ≤ 11 := by have q1 := h_x_99225; have q2 := (⟨by decide, by decide⟩ : 12 ≤ (12 : Int32).toInt ∧ (12 : Int32).toInt ≤ 12); omega
        refine lv_iload_n hx hb dX6_bringsAll_20 rfl (lv_at hl 2 rfl) ?_
        refine lv_iload_n hx hb dX6_bringsAll_21 rfl (lv_at hl 1 rfl) ?_
        refine lv_icmp_eq (tgt := 84) hx hb dX6_bringsAll_22 (by decide) (fun c_99365 => ?_) (fun c_99365 => ?_)
        · skip
          refine lv_iconst (v := 0) hx hb dX6_bringsAll_84 (by decide) ?_
          refine lv_istore (lv' := [(4, .int 0), (3, .int x_99226), (2, .int x_99227), (0, .ref sv), (1, .ref vs)]) hx hb dX6_bringsAll_85 hl (by decide) rfl (fun ls hl => ?_)
          have lp_99484 : ∀ (n_99484 : Nat) (x_99483 : Int32) (ls : Array Slot), (0 ≤ (x_99483 : Int32).toInt ∧ (x_99483 : Int32).toInt ≤ 12) → (12 - x_99483.toInt < (n_99484 : Int)) → lv_has ls 6 [(4, .int x_99483), (3, .int x_99226), (2, .int x_99227), (0, .ref sv), (1, .ref vs)] → W p l e (headSpec (.code yX6_bringsAll cX6_bringsAll 6 (some .boolean) :: wsL_law) ({ frames := 2, cells := 0, slots := 0, locals := 50 })).room s m args below meth c s.heap [] 0 0 (MQ below (vp_Si (fun r => 0 ≤ (r : Int32).toInt ∧ (r : Int32).toInt ≤ 1)) args s 0 0 (fun _ => False)) (F0 m 87 ls []) := by
            intro n_99484
            induction n_99484 with
            | zero =>
              intro x_99483 ls h_x_99483 hm_99484 hl
              exfalso; omega
            | succ n_99484 ih_99484 =>
              intro x_99483 ls h_x_99483 hm_99484 hl
              refine lv_iload hx hb dX6_bringsAll_87 (lv_at hl 0 rfl) ?_
              refine lv_aload_n hx hb dX6_bringsAll_89 rfl (lv_at hl 3 rfl) ?_
              refine va_get (D := D) (ci := 6) (v := .ref n) (C := RX6) (T := TX6) (N := 4) hx hb hts inlX6 hown hK hP 0 rfl rfl 0 (by decide) (hts (Cond.fieldLink RX6 19 "ChanceRings$Solver" "net" "LChanceRings$Net;") qw_548) (fun _ h9 => h9) rfl dX6_bringsAll_90 ?_
              refine va_get (D := D) (ci := 2) (v := .int n_nodes) (C := RX2) (T := TX2) (N := 8) hx hb hts inlX2 hown hK hP 1 rfl rfl 0 (by decide) (hts (Cond.fieldLink RX6 32 "ChanceRings$Net" "nodes" "I") qw_549) (fun _ h9 => h9) rfl dX6_bringsAll_93 ?_
              refine lv_icmp_ge (tgt := 128) hx hb dX6_bringsAll_96 (by decide) (fun c_99485 => ?_) (fun c_99485 => ?_)
              · skip
                refine lv_iconst (v := 1) hx hb dX6_bringsAll_128 (by decide) ?_
                exact W.zret (v := 1) hx hb hr (by decide) (fun t ht hW => ⟨1, rfl, (⟨by decide, by decide⟩ : 0 ≤ (1 : Int32).toInt ∧ (1 : Int32).toInt ≤ 1), ht⟩) (fun _ h => nomatch h) dX6_bringsAll_129
              · skip
                have c_99485_i := Int32.lt_iff_toInt_lt.mp (Int32.not_le.mp c_99485)
                have h_99486 : 0 ≤ (x_99483 : Int32).toInt ∧ (x_99483 : Int32).toInt ≤ 11 := by have q1 := h_x_99483; have q2 := h_n_nodes; omega
                have h_99487 : 1 ≤ (n_nodes : Int32).toInt ∧ (n_nodes : Int32).toInt ≤ 12 := by have q1 := h_x_99483; have q2 := h_n_nodes; omega
                refine lv_aload_n hx hb dX6_bringsAll_99 rfl (lv_at hl 4 rfl) ?_
                refine va_get (D := D) (ci := 10) (v := .ref vs_part) (C := RX10) (T := TX10) (N := 2) hx hb hts inlX10 hown hK hP 7 rfl rfl 0 (by decide) (hts (Cond.fieldLink RX6 71 "ChanceRings$Values" "part" "[J") qw_553) (fun _ h9 => h9) rfl dX6_bringsAll_100 ?_
                refine lv_iload hx hb dX6_bringsAll_103 (lv_at hl 0 rfl) ?_
                refine va_lald hx hb hK hP 8 1 rfl rfl (tr_in h_99486 (by decide) (by decide)) dX6_bringsAll_105 ?_
                refine lv_topl (fun w_99488 _ => ?_)
                refine lv_lconst (v := 0) hx hb dX6_bringsAll_106 (by decide) ?_
                refine W.lcmp hx hb dX6_bringsAll_107 ?_
                refine lv_topi (fun v_99489 v_99489_e => ?_)
                have h_v_99489 : (-1) ≤ (v_99489 : Int32).toInt ∧ (v_99489 : Int32).toInt ≤ 1 := by rw [v_99489_e]; exact tr_cmp _ _
                refine lv_if_le (tgt := 122) hx hb dX6_bringsAll_108 (by decide) (fun c_99490 => ?_) (fun c_99490 => ?_)
                · skip
                  have c_99490_i := Int32.le_iff_toInt_le.mp c_99490
                  have h_99491 : (-1) ≤ (v_99489 : Int32).toInt ∧ (v_99489 : Int32).toInt ≤ 0 := by have q1 := h_v_99489; have q2 := (⟨by decide, by decide⟩ : 0 ≤ (0 : Int32).toInt ∧ (0 : Int32).toInt ≤ 0); omega
                  obtain ⟨v_99493, v_99493_e⟩ : ∃ y : Int32, y = x_99483 + Int32.ofInt 1 := ⟨_, rfl⟩
                  have h_v_99493 : 1 ≤ (v_99493 : Int32).toInt ∧ (v_99493 : Int32).toInt ≤ 12 := by rw [v_99493_e]; exact tr_add h_99486 (⟨by decide, by decide⟩ : 1 ≤ (Int32.ofInt 1 : Int32).toInt ∧ (Int32.ofInt 1 : Int32).toInt ≤ 1) (by decide) (by decide) (by decide) (by decide)
                  have q_v_99493 : v_99493.toInt = x_99483.toInt + 1 := by rw [v_99493_e]; exact tr_addE h_99486 (⟨by decide, by decide⟩ : 1 ≤ (Int32.ofInt 1 : Int32).toInt ∧ (Int32.ofInt 1 : Int32).toInt ≤ 1) (by decide) (by decide)
                  refine lv_iinc (v := v_99493) (lv' := [(4, .int v_99493), (3, .int x_99226), (2, .int x_99227), (0, .ref sv), (1, .ref vs)]) hx hb dX6_bringsAll_122 hl (k := 0) rfl v_99493_e.symm (by decide) rfl (fun ls hl => ?_)
                  refine lv_goto (tgt := 87) hx hb dX6_bringsAll_125 (by decide) ?_
                  exact ih_99484 v_99493 ls (tr_w h_v_99493 (by decide) (by decide)) (by omega) (lv_sub hl [0, 1, 2, 3, 4] rfl)
                · skip
                  have c_99490_i := Int32.lt_iff_toInt_lt.mp (Int32.not_le.mp c_99490)
                  have h_99492 : 1 ≤ (v_99489 : Int32).toInt ∧ (v_99489 : Int32).toInt ≤ 1 := by have q1 := h_v_99489; have q2 := (⟨by decide, by decide⟩ : 0 ≤ (0 : Int32).toInt ∧ (0 : Int32).toInt ≤ 0); omega
                  refine lv_iload_n hx hb dX6_bringsAll_111 rfl (lv_at hl 2 rfl) ?_
                  refine lv_iload hx hb dX6_bringsAll_112 (lv_at hl 0 rfl) ?_
                  refine lv_ishr hx hb dX6_bringsAll_114 ?_
                  refine lv_topi (fun v_99494 v_99494_e => ?_)
                  refine lv_iconst (v := 1) hx hb dX6_bringsAll_115 (by decide) ?_
                  refine lv_iand hx hb dX6_bringsAll_116 ?_
                  refine lv_topi (fun v_99495 v_99495_e => ?_)
                  refine lv_if_ne (tgt := 122) hx hb dX6_bringsAll_117 (by decide) (fun c_99496 => ?_) (fun c_99496 => ?_)
                  · skip
                    obtain ⟨v_99498, v_99498_e⟩ : ∃ y : Int32, y = x_99483 + Int32.ofInt 1 := ⟨_, rfl⟩
                    have h_v_99498 : 1 ≤ (v_99498 : Int32).toInt ∧ (v_99498 : Int32).toInt ≤ 12 := by rw [v_99498_e]; exact tr_add h_99486 (⟨by decide, by decide⟩ : 1 ≤ (Int32.ofInt 1 : Int32).toInt ∧ (Int32.ofInt 1 : Int32).toInt ≤ 1) (by decide) (by decide) (by decide) (by decide)
                    have q_v_99498 : v_99498.toInt = x_99483.toInt + 1 := by rw [v_99498_e]; exact tr_addE h_99486 (⟨by decide, by decide⟩ : 1 ≤ (Int32.ofInt 1 : Int32).toInt ∧ (Int32.ofInt 1 : Int32).toInt ≤ 1) (by decide) (by decide)
                    refine lv_iinc (v := v_99498) (lv' := [(4, .int v_99498), (3, .int x_99226), (2, .int x_99227), (0, .ref sv), (1, .ref vs)]) hx hb dX6_bringsAll_122 hl (k := 0) rfl v_99498_e.symm (by decide) rfl (fun ls hl => ?_)
                    refine lv_goto (tgt := 87) hx hb dX6_bringsAll_125 (by decide) ?_
                    exact ih_99484 v_99498 ls (tr_w h_v_99498 (by decide) (by decide)) (by omega) (lv_sub hl [0, 1, 2, 3, 4] rfl)
                  · skip
                    have h_99497 : 0 ≤ (v_99495 : Int32).toInt ∧ (v_99495 : Int32).toInt ≤ 0 := by rw [c_99496]; exact ⟨by decide, by decide⟩
                    refine lv_iconst (v := 0) hx hb dX6_bringsAll_120 (by decide) ?_
                    exact W.zret (v := 0) hx hb hr (by decide) (fun t ht hW => ⟨0, rfl, (⟨by decide, by decide⟩ : 0 ≤ (0 : Int32).toInt ∧ (0 : Int32).toInt ≤ 1), ht⟩) (fun _ h => nomatch h) dX6_bringsAll_121
          exact lp_99484 13 0 ls (⟨by decide, by decide⟩ : 0 ≤ (0 : Int32).toInt ∧ (0 : Int32).toInt ≤ 12) (by decide) (lv_sub hl [0, 1, 2, 3, 4] rfl)
        · skip
          refine lv_iload_n hx hb dX6_bringsAll_25 rfl (lv_at hl 2 rfl) ?_
          refine lv_istore_n (lv' := [(3, .int x_99227), (4, .int x_99225), (2, .int x_99227), (0, .ref sv), (1, .ref vs)]) hx hb dX6_bringsAll_26 rfl hl (by decide) rfl (fun ls hl => ?_)
          refine lv_iconst (v := 0) hx hb dX6_bringsAll_27 (by decide) ?_
          refine lv_istore (lv' := [(5, .int 0), (3, .int x_99227), (4, .int x_99225), (2, .int x_99227), (0, .ref sv), (1, .ref vs)]) hx hb dX6_bringsAll_28 hl (by decide) rfl (fun ls hl => ?_)
          have lp_99663 : ∀ (n_99663 : Nat) (x_99661 : Int32) (x_99662 : Int32) (ls : Array Slot), (0 ≤ (x_99661 : Int32).toInt ∧ (x_99661 : Int32).toInt ≤ 12) → (12 - x_99661.toInt < (n_99663 : Int)) → lv_has ls 6 [(5, .int x_99661), (3, .int x_99227), (4, .int x_99225), (2, .int x_99662), (0, .ref sv), (1, .ref vs)] → W p l e (headSpec (.code yX6_bringsAll cX6_bringsAll 6 (some .boolean) :: wsL_law) ({ frames := 2, cells := 0, slots := 0, locals := 50 })).room s m args below meth c s.heap [] 0 0 (MQ below (vp_Si (fun r => 0 ≤ (r : Int32).toInt ∧ (r : Int32).toInt ≤ 1)) args s 0 0 (fun _ => False)) (F0 m 30 ls []) := by
            intro n_99663
            induction n_99663 with
            | zero =>
              intro x_99661 x_99662 ls h_x_99661 hm_99663 hl
              exfalso; omega
            | succ n_99663 ih_99663 =>
              intro x_99661 x_99662 ls h_x_99661 hm_99663 hl
              refine lv_iload hx hb dX6_bringsAll_30 (lv_at hl 0 rfl) ?_
              refine lv_aload_n hx hb dX6_bringsAll_32 rfl (lv_at hl 4 rfl) ?_
              refine va_get (D := D) (ci := 6) (v := .ref n) (C := RX6) (T := TX6) (N := 4) hx hb hts inlX6 hown hK hP 0 rfl rfl 0 (by decide) (hts (Cond.fieldLink RX6 19 "ChanceRings$Solver" "net" "LChanceRings$Net;") qw_548) (fun _ h9 => h9) rfl dX6_bringsAll_33 ?_
              refine va_get (D := D) (ci := 2) (v := .int n_nodes) (C := RX2) (T := TX2) (N := 8) hx hb hts inlX2 hown hK hP 1 rfl rfl 0 (by decide) (hts (Cond.fieldLink RX6 32 "ChanceRings$Net" "nodes" "I") qw_549) (fun _ h9 => h9) rfl dX6_bringsAll_36 ?_
              refine lv_icmp_ge (tgt := 78) hx hb dX6_bringsAll_39 (by decide) (fun c_99664 => ?_) (fun c_99664 => ?_)
              · skip
                obtain ⟨v_99667, v_99667_e⟩ : ∃ y : Int32, y = x_99225 + Int32.ofInt 1 := ⟨_, rfl⟩
                have h_v_99667 : 1 ≤ (v_99667 : Int32).toInt ∧ (v_99667 : Int32).toInt ≤ 12 := by rw [v_99667_e]; exact tr_add h_99231 (⟨by decide, by decide⟩ : 1 ≤ (Int32.ofInt 1 : Int32).toInt ∧ (Int32.ofInt 1 : Int32).toInt ≤ 1) (by decide) (by decide) (by decide) (by decide)
                have q_v_99667 : v_99667.toInt = x_99225.toInt + 1 := by rw [v_99667_e]; exact tr_addE h_99231 (⟨by decide, by decide⟩ : 1 ≤ (Int32.ofInt 1 : Int32).toInt ∧ (Int32.ofInt 1 : Int32).toInt ≤ 1) (by decide) (by decide)
                refine lv_iinc (v := v_99667) (lv' := [(4, .int v_99667), (5, .int x_99661), (3, .int x_99227), (2, .int x_99662), (0, .ref sv), (1, .ref vs)]) hx hb dX6_bringsAll_78 hl (k := 2) rfl v_99667_e.symm (by decide) rfl (fun ls hl => ?_)
                refine lv_goto (tgt := 13) hx hb dX6_bringsAll_81 (by decide) ?_
                exact ih_99228 v_99667 x_99227 x_99662 ls (tr_w h_v_99667 (by decide) (by decide)) (by omega) (lv_sub hl [0, 2, 3, 4, 5] rfl)
              · skip
                have c_99664_i := Int32.lt_iff_toInt_lt.mp (Int32.not_le.mp c_99664)
                have h_99665 : 0 ≤ (x_99661 : Int32).toInt ∧ (x_99661 : Int32).toInt ≤ 11 := by have q1 := h_x_99661; have q2 := h_n_nodes; omega
                have h_99666 : 1 ≤ (n_nodes : Int32).toInt ∧ (n_nodes : Int32).toInt ≤ 12 := by have q1 := h_x_99661; have q2 := h_n_nodes; omega
                refine lv_aload_n hx hb dX6_bringsAll_42 rfl (lv_at hl 5 rfl) ?_
                refine va_get (D := D) (ci := 10) (v := .ref vs_part) (C := RX10) (T := TX10) (N := 2) hx hb hts inlX10 hown hK hP 7 rfl rfl 0 (by decide) (hts (Cond.fieldLink RX6 71 "ChanceRings$Values" "part" "[J") qw_553) (fun _ h9 => h9) rfl dX6_bringsAll_43 ?_
                refine lv_iload hx hb dX6_bringsAll_46 (lv_at hl 0 rfl) ?_
                refine va_lald hx hb hK hP 8 1 rfl rfl (tr_in h_99665 (by decide) (by decide)) dX6_bringsAll_48 ?_
                refine lv_topl (fun w_99668 _ => ?_)
                refine lv_lconst (v := 0) hx hb dX6_bringsAll_49 (by decide) ?_
                refine W.lcmp hx hb dX6_bringsAll_50 ?_
                refine lv_topi (fun v_99669 v_99669_e => ?_)
                have h_v_99669 : (-1) ≤ (v_99669 : Int32).toInt ∧ (v_99669 : Int32).toInt ≤ 1 := by rw [v_99669_e]; exact tr_cmp _ _
                refine lv_if_le (tgt := 72) hx hb dX6_bringsAll_51 (by decide) (fun c_99670 => ?_) (fun c_99670 => ?_)
                · skip
                  have c_99670_i := Int32.le_iff_toInt_le.mp c_99670
                  have h_99671 : (-1) ≤ (v_99669 : Int32).toInt ∧ (v_99669 : Int32).toInt ≤ 0 := by have q1 := h_v_99669; have q2 := (⟨by decide, by decide⟩ : 0 ≤ (0 : Int32).toInt ∧ (0 : Int32).toInt ≤ 0); omega
                  obtain ⟨v_99673, v_99673_e⟩ : ∃ y : Int32, y = x_99661 + Int32.ofInt 1 := ⟨_, rfl⟩
                  have h_v_99673 : 1 ≤ (v_99673 : Int32).toInt ∧ (v_99673 : Int32).toInt ≤ 12 := by rw [v_99673_e]; exact tr_add h_99665 (⟨by decide, by decide⟩ : 1 ≤ (Int32.ofInt 1 : Int32).toInt ∧ (Int32.ofInt 1 : Int32).toInt ≤ 1) (by decide) (by decide) (by decide) (by decide)
                  have q_v_99673 : v_99673.toInt = x_99661.toInt + 1 := by rw [v_99673_e]; exact tr_addE h_99665 (⟨by decide, by decide⟩ : 1 ≤ (Int32.ofInt 1 : Int32).toInt ∧ (Int32.ofInt 1 : Int32).toInt ≤ 1) (by decide) (by decide)
                  refine lv_iinc (v := v_99673) (lv' := [(5, .int v_99673), (3, .int x_99227), (4, .int x_99225), (2, .int x_99662), (0, .ref sv), (1, .ref vs)]) hx hb dX6_bringsAll_72 hl (k := 0) rfl v_99673_e.symm (by decide) rfl (fun ls hl => ?_)
                  refine lv_goto (tgt := 30) hx hb dX6_bringsAll_75 (by decide) ?_
                  exact ih_99663 v_99673 x_99662 ls (tr_w h_v_99673 (by decide) (by decide)) (by omega) (lv_sub hl [0, 1, 2, 3, 4, 5] rfl)
                · skip
                  have c_99670_i := Int32.lt_iff_toInt_lt.mp (Int32.not_le.mp c_99670)
                  have h_99672 : 1 ≤ (v_99669 : Int32).toInt ∧ (v_99669 : Int32).toInt ≤ 1 := by have q1 := h_v_99669; have q2 := (⟨by decide, by decide⟩ : 0 ≤ (0 : Int32).toInt ∧ (0 : Int32).toInt ≤ 0); omega
                  refine lv_aload_n hx hb dX6_bringsAll_54 rfl (lv_at hl 4 rfl) ?_
                  refine lv_iload hx hb dX6_bringsAll_55 (lv_at hl 0 rfl) ?_
                  refine lv_iload_n hx hb dX6_bringsAll_57 rfl (lv_at hl 3 rfl) ?_
                  refine lv_aload_n hx hb dX6_bringsAll_58 rfl (lv_at hl 5 rfl) ?_
                  have hPc := hP.sub (ws' := [(sv, .inr (6, [.ref n, .ref co, .ref sv_keep, .ref sv_scaled])), (n, .inr (2, [.int n_nodes, .ref n_kind, .ref n_pay, .ref n_name, .ref n_ways, .ref n_held, .ref n_targets, .ref n_weights])), (n_kind, .inl (g 0, 12, .inl n_fkind)), (n_pay, .inl (g 0, 12, .inl n_fpay)), (n_ways, .inl (g 0, 12, .inl n_fways)), (n_held, .inl (g 0, 12, .inl n_fheld)), (n_targets, .inl (g 0, 36, .inl n_ftargets)), (vs, .inr (10, [.ref vs_part, .long vsw])), (vs_part, .inl (g 1, 12, .inr (.inl vsp))), (sv_keep, .inl (g 0, 12, .inl kpf))]) [0, 1, 2, 3, 4, 5, 6, 7, 8, 9] rfl
                  refine vp_callSi (va_Run.run (va_runV (As := [.int x_99661, .int x_99662, .ref vs]) (rest := []) ⟨hx, hb, hml, hown, hts⟩ (c_X6_isBrought l D g sv x_99661 x_99662 vs n co sv_keep sv_scaled n_nodes n_kind n_pay n_name n_ways n_held n_targets n_weights n_fkind n_fpay n_fways n_fheld n_ftargets vs_part vsw vsp kpf (tr_w h_99665 (by decide) (by decide)) (tr_w h_99666 (by decide) (by decide)) (tr_wa h_n_fkind (by decide) (by decide)) (tr_wa h_n_fways (by decide) (by decide)) (tr_wa h_n_fheld (by decide) (by decide)) (tr_wa h_n_ftargets (by decide) (by decide))) (cwV 3 hts (tz_gV qw_589 qw_590 qw_591 qw_558 qw_592) rfl rfl rfl (by decide +kernel) ⟨Nat.le_of_ble_eq_true rfl, Nat.le_of_ble_eq_true rfl⟩) ⟨tz_blS, va_recv hK hPc (ci := 6) (q0 := 0) rfl rfl, tz_preS hPc hK⟩ rfl rfl hl.1 rfl (lv_room (Nat.le_of_ble_eq_true rfl)) dX6_bringsAll_59 ⟨Nat.le_of_ble_eq_true rfl, Nat.le_of_ble_eq_true rfl⟩)) (fun r_99674 hw => ?_)
                  have hw_99675 : 0 ≤ (r_99674 : Int32).toInt ∧ (r_99674 : Int32).toInt ≤ 1 := hw
                  refine lv_if_eq (tgt := 72) hx hb dX6_bringsAll_62 (by decide) (fun c_99676 => ?_) (fun c_99676 => ?_)
                  · skip
                    have c_99676_i := c_99676
                    have c_99676_i : (r_99674 : Int32).toInt = (0 : Int32).toInt := congrArg Int32.toInt c_99676
                    have h_99677 : 0 ≤ (r_99674 : Int32).toInt ∧ (r_99674 : Int32).toInt ≤ 0 := by have q1 := hw_99675; have q2 := (⟨by decide, by decide⟩ : 0 ≤ (0 : Int32).toInt ∧ (0 : Int32).toInt ≤ 0); omega
                    obtain ⟨v_99679, v_99679_e⟩ : ∃ y : Int32, y = x_99661 + Int32.ofInt 1 := ⟨_, rfl⟩
                    have h_v_99679 : 1 ≤ (v_99679 : Int32).toInt ∧ (v_99679 : Int32).toInt ≤ 12 := by rw [v_99679_e]; exact tr_add h_99665 (⟨by decide, by decide⟩ : 1 ≤ (Int32.ofInt 1 : Int32).toInt ∧ (Int32.ofInt 1 : Int32).toInt ≤ 1) (by decide) (by decide) (by decide) (by decide)
                    have q_v_99679 : v_99679.toInt = x_99661.toInt + 1 := by rw [v_99679_e]; exact tr_addE h_99665 (⟨by decide, by decide⟩ : 1 ≤ (Int32.ofInt 1 : Int32).toInt ∧ (Int32.ofInt 1 : Int32).toInt ≤ 1) (by decide) (by decide)
                    refine lv_iinc (v := v_99679) (lv' := [(5, .int v_99679), (3, .int x_99227), (4, .int x_99225), (2, .int x_99662), (0, .ref sv), (1, .ref vs)]) hx hb dX6_bringsAll_72 hl (k := 0) rfl v_99679_e.symm (by decide) rfl (fun ls hl => ?_)
                    refine lv_goto (tgt := 30) hx hb dX6_bringsAll_75 (by decide) ?_
                    exact ih_99663 v_99679 x_99662 ls (tr_w h_v_99679 (by decide) (by decide)) (by omega) (lv_sub hl [0, 1, 2, 3, 4, 5] rfl)
                  · skip
                    have c_99676_i := c_99676
                    have c_99676_i : ¬ (r_99674 : Int32).toInt = (0 : Int32).toInt := (fun q => c_99676 (Int32.toInt_inj.mp q))
                    have h_99678 : 1 ≤ (r_99674 : Int32).toInt ∧ (r_99674 : Int32).toInt ≤ 1 := by have q1 := hw_99675; have q2 := (⟨by decide, by decide⟩ : 0 ≤ (0 : Int32).toInt ∧ (0 : Int32).toInt ≤ 0); omega
                    refine lv_iload_n hx hb dX6_bringsAll_65 rfl (lv_at hl 3 rfl) ?_
                    refine lv_iconst (v := 1) hx hb dX6_bringsAll_66 (by decide) ?_
                    refine lv_iload hx hb dX6_bringsAll_67 (lv_at hl 0 rfl) ?_
                    refine lv_ishl hx hb dX6_bringsAll_69 ?_
                    refine lv_topi (fun v_99680 v_99680_e => ?_)
                    refine lv_ior hx hb dX6_bringsAll_70 ?_
                    refine lv_topi (fun v_99681 v_99681_e => ?_)
                    refine lv_istore_n (lv' := [(2, .int v_99681), (5, .int x_99661), (3, .int x_99227), (4, .int x_99225), (0, .ref sv), (1, .ref vs)]) hx hb dX6_bringsAll_71 rfl hl (by decide) rfl (fun ls hl => ?_)
                    obtain ⟨v_99682, v_99682_e⟩ : ∃ y : Int32, y = x_99661 + Int32.ofInt 1 := ⟨_, rfl⟩
                    have h_v_99682 : 1 ≤ (v_99682 : Int32).toInt ∧ (v_99682 : Int32).toInt ≤ 12 := by rw [v_99682_e]; exact tr_add h_99665 (⟨by decide, by decide⟩ : 1 ≤ (Int32.ofInt 1 : Int32).toInt ∧ (Int32.ofInt 1 : Int32).toInt ≤ 1) (by decide) (by decide) (by decide) (by decide)
                    have q_v_99682 : v_99682.toInt = x_99661.toInt + 1 := by rw [v_99682_e]; exact tr_addE h_99665 (⟨by decide, by decide⟩ : 1 ≤ (Int32.ofInt 1 : Int32).toInt ∧ (Int32.ofInt 1 : Int32).toInt ≤ 1) (by decide) (by decide)
                    refine lv_iinc (v := v_99682) (lv' := [(5, .int v_99682), (2, .int v_99681), (3, .int x_99227), (4, .int x_99225), (0, .ref sv), (1, .ref vs)]) hx hb dX6_bringsAll_72 hl (k := 1) rfl v_99682_e.symm (by decide) rfl (fun ls hl => ?_)
                    refine lv_goto (tgt := 30) hx hb dX6_bringsAll_75 (by decide) ?_
                    exact ih_99663 v_99682 v_99681 ls (tr_w h_v_99682 (by decide) (by decide)) (by omega) (lv_sub hl [0, 2, 3, 1, 4, 5] rfl)
          exact lp_99663 13 0 x_99227 ls (⟨by decide, by decide⟩ : 0 ≤ (0 : Int32).toInt ∧ (0 : Int32).toInt ≤ 12) (by decide) (lv_sub hl [0, 1, 2, 3, 4, 5] rfl)
  exact lp_99228 13 0 (-1) r_96542 ls (⟨by decide, by decide⟩ : 0 ≤ (0 : Int32).toInt ∧ (0 : Int32).toInt ≤ 12) (by decide) (lv_sub hl [0, 1, 2, 3, 4] rfl)
set_option maxHeartbeats 4000000 in
set_option maxRecDepth 100000 in
theorem c_X6_goodOf (l : Launch) (D : va_G) (g : Nat → ClassId) (sz : Nat) (sv : Nat) (p0 : Int32) (vs : Nat) (n : Nat) (co : Nat) (sv_keep : Nat) (sv_scaled : Nat) (n_nodes : Int32) (n_kind : Nat) (n_pay : Nat) (n_name : Nat) (n_ways : Nat) (n_held : Nat) (n_targets : Nat) (n_weights : Nat) (n_fkind : Nat → Int32) (n_fpay : Nat → Int32) (n_fways : Nat → Int32) (n_fheld : Nat → Int32) (n_ftargets : Nat → Int32) (vs_part : Nat) (vsw : Int64) (vsp : Nat → Int64) (kpf : Nat → Int32) (h_p0 : 0 ≤ (p0 : Int32).toInt ∧ (p0 : Int32).toInt ≤ 11) (h_n_nodes : 0 ≤ (n_nodes : Int32).toInt ∧ (n_nodes : Int32).toInt ≤ 12) (h_n_fkind : ∀ j : Nat, 0 ≤ (n_fkind j).toInt ∧ (n_fkind j).toInt ≤ 3) (h_n_fways : ∀ j : Nat, 0 ≤ (n_fways j).toInt ∧ (n_fways j).toInt ≤ 3) (h_n_fheld : ∀ j : Nat, (-1) ≤ (n_fheld j).toInt ∧ (n_fheld j).toInt ≤ 2) (h_n_ftargets : ∀ j : Nat, 0 ≤ (n_ftargets j).toInt ∧ (n_ftargets j).toInt ≤ 11) : Met l yX6_goodOf (.code yX6_goodOf cX6_goodOf 6 (some .int) :: wsL_law) ({ frames := 3, cells := 0, slots := 0, locals := 75 }) (va_Pc [.ref sv, .int p0, .ref vs] (fun U => U.heap.size = sz ∧ va_P D vwCl [(sv, .inr (6, [.ref n, .ref co, .ref sv_keep, .ref sv_scaled])), (n, .inr (2, [.int n_nodes, .ref n_kind, .ref n_pay, .ref n_name, .ref n_ways, .ref n_held, .ref n_targets, .ref n_weights])), (n_kind, .inl (g 0, 12, .inl n_fkind)), (n_pay, .inl (g 0, 12, .inl n_fpay)), (n_ways, .inl (g 0, 12, .inl n_fways)), (n_held, .inl (g 0, 12, .inl n_fheld)), (n_targets, .inl (g 0, 36, .inl n_ftargets)), (vs, .inr (10, [.ref vs_part, .long vsw])), (vs_part, .inl (g 1, 12, .inr (.inl vsp))), (sv_keep, .inl (g 0, 12, .inl kpf))] U.heap ∧ va_K D vwCl (TY g) U ∧ va_D (fun _ => True) [(sv, .inr (6, [.ref n, .ref co, .ref sv_keep, .ref sv_scaled])), (n, .inr (2, [.int n_nodes, .ref n_kind, .ref n_pay, .ref n_name, .ref n_ways, .ref n_held, .ref n_targets, .ref n_weights])), (n_kind, .inl (g 0, 12, .inl n_fkind)), (n_pay, .inl (g 0, 12, .inl n_fpay)), (n_ways, .inl (g 0, 12, .inl n_fways)), (n_held, .inl (g 0, 12, .inl n_fheld)), (n_targets, .inl (g 0, 36, .inl n_ftargets)), (vs, .inr (10, [.ref vs_part, .long vsw])), (vs_part, .inl (g 1, 12, .inr (.inl vsp))), (sv_keep, .inl (g 0, 12, .inl kpf))])) (va_Qi (fun r (_ : Unit) => True) (fun _ t => ∃ okp : Nat → Int32, va_P D vwCl [(sv, .inr (6, [.ref n, .ref co, .ref sv_keep, .ref sv_scaled])), (n, .inr (2, [.int n_nodes, .ref n_kind, .ref n_pay, .ref n_name, .ref n_ways, .ref n_held, .ref n_targets, .ref n_weights])), (n_kind, .inl (g 0, 12, .inl n_fkind)), (n_pay, .inl (g 0, 12, .inl n_fpay)), (n_ways, .inl (g 0, 12, .inl n_fways)), (n_held, .inl (g 0, 12, .inl n_fheld)), (n_targets, .inl (g 0, 36, .inl n_ftargets)), (vs, .inr (10, [.ref vs_part, .long vsw])), (vs_part, .inl (g 1, 12, .inr (.inl vsp))), (sv_keep, .inl (g 0, 12, .inl okp))] t.heap ∧ va_D (va_A [(sv, .inr (6, [.ref n, .ref co, .ref sv_keep, .ref sv_scaled])), (n, .inr (2, [.int n_nodes, .ref n_kind, .ref n_pay, .ref n_name, .ref n_ways, .ref n_held, .ref n_targets, .ref n_weights])), (n_kind, .inl (g 0, 12, .inl n_fkind)), (n_pay, .inl (g 0, 12, .inl n_fpay)), (n_ways, .inl (g 0, 12, .inl n_fways)), (n_held, .inl (g 0, 12, .inl n_fheld)), (n_targets, .inl (g 0, 36, .inl n_ftargets)), (vs, .inr (10, [.ref vs_part, .long vsw])), (vs_part, .inl (g 1, 12, .inr (.inl vsp))), (sv_keep, .inl (g 0, 12, .inl kpf))] sz) [(sv, .inr (6, [.ref n, .ref co, .ref sv_keep, .ref sv_scaled])), (n, .inr (2, [.int n_nodes, .ref n_kind, .ref n_pay, .ref n_name, .ref n_ways, .ref n_held, .ref n_targets, .ref n_weights])), (n_kind, .inl (g 0, 12, .inl n_fkind)), (n_pay, .inl (g 0, 12, .inl n_fpay)), (n_ways, .inl (g 0, 12, .inl n_fways)), (n_held, .inl (g 0, 12, .inl n_fheld)), (n_targets, .inl (g 0, 36, .inl n_ftargets)), (vs, .inr (10, [.ref vs_part, .long vsw])), (vs_part, .inl (g 1, 12, .inr (.inl vsp))), (sv_keep, .inl (g 0, 12, .inl okp))]) (va_A [(sv, .inr (6, [.ref n, .ref co, .ref sv_keep, .ref sv_scaled])), (n, .inr (2, [.int n_nodes, .ref n_kind, .ref n_pay, .ref n_name, .ref n_ways, .ref n_held, .ref n_targets, .ref n_weights])), (n_kind, .inl (g 0, 12, .inl n_fkind)), (n_pay, .inl (g 0, 12, .inl n_fpay)), (n_ways, .inl (g 0, 12, .inl n_fways)), (n_held, .inl (g 0, 12, .inl n_fheld)), (n_targets, .inl (g 0, 36, .inl n_ftargets)), (vs, .inr (10, [.ref vs_part, .long vsw])), (vs_part, .inl (g 1, 12, .inr (.inl vsp))), (sv_keep, .inl (g 0, 12, .inl kpf))] sz)) 0 0 (va_A [(sv, .inr (6, [.ref n, .ref co, .ref sv_keep, .ref sv_scaled])), (n, .inr (2, [.int n_nodes, .ref n_kind, .ref n_pay, .ref n_name, .ref n_ways, .ref n_held, .ref n_targets, .ref n_weights])), (n_kind, .inl (g 0, 12, .inl n_fkind)), (n_pay, .inl (g 0, 12, .inl n_fpay)), (n_ways, .inl (g 0, 12, .inl n_fways)), (n_held, .inl (g 0, 12, .inl n_fheld)), (n_targets, .inl (g 0, 36, .inl n_ftargets)), (vs, .inr (10, [.ref vs_part, .long vsw])), (vs_part, .inl (g 1, 12, .inr (.inl vsp))), (sv_keep, .inl (g 0, 12, .inl kpf))] sz) := by
  refine Met.ofW (cc := cX6_goodOf) (maxL := 6) (ret := (some .int)) (by decide) rfl ?_
  intro p e s m args below meth c s₁ B hml hv
  obtain ⟨ha, hsz, hP, hK, hD0⟩ := hv
  have hx := B.exec
  have hb := B.bytes
  have hr := B.returns
  have hts0 := atoms_spec (ws := (.code yX6_goodOf cX6_goodOf 6 (some .int) :: wsL_law)) B.pre
  have hts : ∀ w ∈ wsL_law, w.before args s = true := fun w h => hts0 w (List.mem_cons_of_mem _ h)
  have hown : s.vm.findClass RX6 = some m.cls := findClass_of_methodNamed B.named
  have hlocks := B.notSynchronized
  subst hsz
  have hD := hD0.self (sz := s.heap.size)
  generalize hAe : va_A [(sv, .inr (6, [.ref n, .ref co, .ref sv_keep, .ref sv_scaled])), (n, .inr (2, [.int n_nodes, .ref n_kind, .ref n_pay, .ref n_name, .ref n_ways, .ref n_held, .ref n_targets, .ref n_weights])), (n_kind, .inl (g 0, 12, .inl n_fkind)), (n_pay, .inl (g 0, 12, .inl n_fpay)), (n_ways, .inl (g 0, 12, .inl n_fways)), (n_held, .inl (g 0, 12, .inl n_fheld)), (n_targets, .inl (g 0, 36, .inl n_ftargets)), (vs, .inr (10, [.ref vs_part, .long vsw])), (vs_part, .inl (g 1, 12, .inr (.inl vsp))), (sv_keep, .inl (g 0, 12, .inl kpf))] s.heap.size = A at hD ⊢
  have hA : ∀ q : Nat, s.heap.size ≤ q → A q := fun q h => by rw [← hAe]; exact Or.inr h
  have hS : va_S A s.heap s.heap [] := va_S.rf
  have hP : va_P D vwCl [(sv, .inr (6, [.ref n, .ref co, .ref sv_keep, .ref sv_scaled])), (n, .inr (2, [.int n_nodes, .ref n_kind, .ref n_pay, .ref n_name, .ref n_ways, .ref n_held, .ref n_targets, .ref n_weights])), (n_kind, .inl (g 0, 12, .inl n_fkind)), (n_pay, .inl (g 0, 12, .inl n_fpay)), (n_ways, .inl (g 0, 12, .inl n_fways)), (n_held, .inl (g 0, 12, .inl n_fheld)), (n_targets, .inl (g 0, 36, .inl n_ftargets)), (vs, .inr (10, [.ref vs_part, .long vsw])), (vs_part, .inl (g 1, 12, .inr (.inl vsp))), (sv_keep, .inl (g 0, 12, .inl kpf))] s.heap := hP
  refine W.eq (g2 := entryFrame m ([.ref sv, .int p0, .ref vs] : List Value).toArray 6) (by rw [ha]) ?_
  have hl := lv_entry ([.ref sv, .int p0, .ref vs]) (n := 6) (Nat.le_of_ble_eq_true rfl)
  rw [lg_entry_eq]
  generalize (lg_sl ([.ref sv, .int p0, .ref vs]) ++ List.replicate (6 - (lg_sl ([.ref sv, .int p0, .ref vs])).length) Slot.unset).toArray = ls at hl ⊢
  have hl : lv_has ls 6 [(0, .ref sv), (1, .int p0), (2, .ref vs)] := hl
  refine lv_aload_n hx hb dX6_goodOf_0 rfl (lv_at hl 0 rfl) ?_
  refine va_get (D := D) (ci := 6) (v := .ref sv_keep) (C := RX6) (T := TX6) (N := 4) hx hb hts inlX6 hown hK hP 0 rfl rfl 2 (by decide) (hts (Cond.fieldLink RX6 9 "ChanceRings$Solver" "keep" "[I") qw_587) (fun _ h9 => h9) rfl dX6_goodOf_1 ?_
  refine lv_iload_n hx hb dX6_goodOf_4 rfl (lv_at hl 1 rfl) ?_
  refine va_iald hx hb hK hP 9 0 rfl rfl (tr_in h_p0 (by decide) (by decide)) dX6_goodOf_5 ?_
  refine lv_topi (fun v_99683 v_99683_e => ?_)
  refine lv_istore_n (lv' := [(3, .int v_99683), (0, .ref sv), (1, .int p0), (2, .ref vs)]) hx hb dX6_goodOf_6 rfl hl (by decide) rfl (fun ls hl => ?_)
  refine lv_aload_n hx hb dX6_goodOf_7 rfl (lv_at hl 1 rfl) ?_
  refine va_get (D := D) (ci := 6) (v := .ref n) (C := RX6) (T := TX6) (N := 4) hx hb hts inlX6 hown hK hP 0 rfl rfl 0 (by decide) (hts (Cond.fieldLink RX6 19 "ChanceRings$Solver" "net" "LChanceRings$Net;") qw_548) (fun _ h9 => h9) rfl dX6_goodOf_8 ?_
  refine va_get (D := D) (ci := 2) (v := .ref n_kind) (C := RX2) (T := TX2) (N := 8) hx hb hts inlX2 hown hK hP 1 rfl rfl 1 (by decide) (hts (Cond.fieldLink RX6 61 "ChanceRings$Net" "kind" "[I") qw_551) (fun _ h9 => h9) rfl dX6_goodOf_11 ?_
  refine lv_iload_n hx hb dX6_goodOf_14 rfl (lv_at hl 2 rfl) ?_
  refine va_iald hx hb hK hP 2 0 rfl rfl (tr_in h_p0 (by decide) (by decide)) dX6_goodOf_15 ?_
  refine lv_topi (fun v_99684 v_99684_e => ?_)
  have h_v_99684 : 0 ≤ (v_99684 : Int32).toInt ∧ (v_99684 : Int32).toInt ≤ 3 := by rw [v_99684_e]; exact h_n_fkind _
  refine lv_iconst (v := 2) hx hb dX6_goodOf_16 (by decide) ?_
  refine lv_icmp_ne (tgt := 22) hx hb dX6_goodOf_17 (by decide) (fun c_99685 => ?_) (fun c_99685 => ?_)
  · skip
    refine lv_iconst (v := 0) hx hb dX6_goodOf_22 (by decide) ?_
    refine lv_istore (lv' := [(4, .int 0), (3, .int v_99683), (0, .ref sv), (1, .int p0), (2, .ref vs)]) hx hb dX6_goodOf_23 hl (by decide) rfl (fun ls hl => ?_)
    refine lv_iconst (v := 0) hx hb dX6_goodOf_25 (by decide) ?_
    refine lv_istore (lv' := [(5, .int 0), (4, .int 0), (3, .int v_99683), (0, .ref sv), (1, .int p0), (2, .ref vs)]) hx hb dX6_goodOf_26 hl (by decide) rfl (fun ls hl => ?_)
    have lp_99777 : ∀ (n_99777 : Nat) (x_99774 : Int32) (f_99775 : Nat → Int32) (x_99776 : Int32) (H : Heap) (locs : List Loc) (ls : Array Slot), (0 ≤ (x_99774 : Int32).toInt ∧ (x_99774 : Int32).toInt ≤ 3) → (3 - x_99774.toInt < (n_99777 : Int)) → va_P D vwCl [(sv, .inr (6, [.ref n, .ref co, .ref sv_keep, .ref sv_scaled])), (n, .inr (2, [.int n_nodes, .ref n_kind, .ref n_pay, .ref n_name, .ref n_ways, .ref n_held, .ref n_targets, .ref n_weights])), (n_kind, .inl (g 0, 12, .inl n_fkind)), (n_pay, .inl (g 0, 12, .inl n_fpay)), (n_ways, .inl (g 0, 12, .inl n_fways)), (n_held, .inl (g 0, 12, .inl n_fheld)), (n_targets, .inl (g 0, 36, .inl n_ftargets)), (vs, .inr (10, [.ref vs_part, .long vsw])), (vs_part, .inl (g 1, 12, .inr (.inl vsp))), (sv_keep, .inl (g 0, 12, .inl f_99775))] H → va_D A [(sv, .inr (6, [.ref n, .ref co, .ref sv_keep, .ref sv_scaled])), (n, .inr (2, [.int n_nodes, .ref n_kind, .ref n_pay, .ref n_name, .ref n_ways, .ref n_held, .ref n_targets, .ref n_weights])), (n_kind, .inl (g 0, 12, .inl n_fkind)), (n_pay, .inl (g 0, 12, .inl n_fpay)), (n_ways, .inl (g 0, 12, .inl n_fways)), (n_held, .inl (g 0, 12, .inl n_fheld)), (n_targets, .inl (g 0, 36, .inl n_ftargets)), (vs, .inr (10, [.ref vs_part, .long vsw])), (vs_part, .inl (g 1, 12, .inr (.inl vsp))), (sv_keep, .inl (g 0, 12, .inl f_99775))] → va_S A s.heap H locs → lv_has ls 6 [(5, .int x_99774), (4, .int x_99776), (3, .int v_99683), (0, .ref sv), (1, .int p0), (2, .ref vs)] → W p l e (headSpec (.code yX6_goodOf cX6_goodOf 6 (some .int) :: wsL_law) ({ frames := 3, cells := 0, slots := 0, locals := 75 })).room s m args below meth c H locs 0 0 (MQ below (va_Qi (fun r (_ : Unit) => True) (fun _ t => ∃ okp : Nat → Int32, va_P D vwCl [(sv, .inr (6, [.ref n, .ref co, .ref sv_keep, .ref sv_scaled])), (n, .inr (2, [.int n_nodes, .ref n_kind, .ref n_pay, .ref n_name, .ref n_ways, .ref n_held, .ref n_targets, .ref n_weights])), (n_kind, .inl (g 0, 12, .inl n_fkind)), (n_pay, .inl (g 0, 12, .inl n_fpay)), (n_ways, .inl (g 0, 12, .inl n_fways)), (n_held, .inl (g 0, 12, .inl n_fheld)), (n_targets, .inl (g 0, 36, .inl n_ftargets)), (vs, .inr (10, [.ref vs_part, .long vsw])), (vs_part, .inl (g 1, 12, .inr (.inl vsp))), (sv_keep, .inl (g 0, 12, .inl okp))] t.heap ∧ va_D A [(sv, .inr (6, [.ref n, .ref co, .ref sv_keep, .ref sv_scaled])), (n, .inr (2, [.int n_nodes, .ref n_kind, .ref n_pay, .ref n_name, .ref n_ways, .ref n_held, .ref n_targets, .ref n_weights])), (n_kind, .inl (g 0, 12, .inl n_fkind)), (n_pay, .inl (g 0, 12, .inl n_fpay)), (n_ways, .inl (g 0, 12, .inl n_fways)), (n_held, .inl (g 0, 12, .inl n_fheld)), (n_targets, .inl (g 0, 36, .inl n_ftargets)), (vs, .inr (10, [.ref vs_part, .long vsw])), (vs_part, .inl (g 1, 12, .inr (.inl vsp))), (sv_keep, .inl (g 0, 12, .inl okp))]) A) args s 0 0 A) (F0 m 28 ls []) := by
      intro n_99777
      induction n_99777 with
      | zero =>
        intro x_99774 f_99775 x_99776 H locs ls h_x_99774 hm_99777 hP hD hS hl
        exfalso; omega
      | succ n_99777 ih_99777 =>
        intro x_99774 f_99775 x_99776 H locs ls h_x_99774 hm_99777 hP hD hS hl
        refine lv_iload hx hb dX6_goodOf_28 (lv_at hl 0 rfl) ?_
        refine lv_aload_n hx hb dX6_goodOf_30 rfl (lv_at hl 3 rfl) ?_
        refine va_get (D := D) (ci := 6) (v := .ref n) (C := RX6) (T := TX6) (N := 4) hx hb hts inlX6 hown hK hP 0 rfl rfl 0 (by decide) (hts (Cond.fieldLink RX6 19 "ChanceRings$Solver" "net" "LChanceRings$Net;") qw_548) (fun _ h9 => h9) rfl dX6_goodOf_31 ?_
        refine va_get (D := D) (ci := 2) (v := .ref n_ways) (C := RX2) (T := TX2) (N := 8) hx hb hts inlX2 hown hK hP 1 rfl rfl 4 (by decide) (hts (Cond.fieldLink RX6 68 "ChanceRings$Net" "ways" "[I") qw_552) (fun _ h9 => h9) rfl dX6_goodOf_34 ?_
        refine lv_iload_n hx hb dX6_goodOf_37 rfl (lv_at hl 4 rfl) ?_
        refine va_iald hx hb hK hP 4 0 rfl rfl (tr_in h_p0 (by decide) (by decide)) dX6_goodOf_38 ?_
        refine lv_topi (fun v_99778 v_99778_e => ?_)
        have h_v_99778 : 0 ≤ (v_99778 : Int32).toInt ∧ (v_99778 : Int32).toInt ≤ 3 := by rw [v_99778_e]; exact h_n_fways _
        refine lv_icmp_ge (tgt := 86) hx hb dX6_goodOf_39 (by decide) (fun c_99779 => ?_) (fun c_99779 => ?_)
        · skip
          refine lv_aload_n hx hb dX6_goodOf_86 rfl (lv_at hl 3 rfl) ?_
          refine va_get (D := D) (ci := 6) (v := .ref sv_keep) (C := RX6) (T := TX6) (N := 4) hx hb hts inlX6 hown hK hP 0 rfl rfl 2 (by decide) (hts (Cond.fieldLink RX6 9 "ChanceRings$Solver" "keep" "[I") qw_587) (fun _ h9 => h9) rfl dX6_goodOf_87 ?_
          refine lv_iload_n hx hb dX6_goodOf_90 rfl (lv_at hl 4 rfl) ?_
          refine lv_iload_n hx hb dX6_goodOf_91 rfl (lv_at hl 2 rfl) ?_
          refine va_iast hx hb hK hP hD hS 9 0 rfl rfl (tr_in h_p0 (by decide) (by decide)) dX6_goodOf_92 (fun H locs hP hD hS => ?_)
          obtain ⟨f_99782, hP, hD⟩ : ∃ FX : Nat → Int32, va_P D vwCl [(sv, .inr (6, [.ref n, .ref co, .ref sv_keep, .ref sv_scaled])), (n, .inr (2, [.int n_nodes, .ref n_kind, .ref n_pay, .ref n_name, .ref n_ways, .ref n_held, .ref n_targets, .ref n_weights])), (n_kind, .inl (g 0, 12, .inl n_fkind)), (n_pay, .inl (g 0, 12, .inl n_fpay)), (n_ways, .inl (g 0, 12, .inl n_fways)), (n_held, .inl (g 0, 12, .inl n_fheld)), (n_targets, .inl (g 0, 36, .inl n_ftargets)), (vs, .inr (10, [.ref vs_part, .long vsw])), (vs_part, .inl (g 1, 12, .inr (.inl vsp))), (sv_keep, .inl (g 0, 12, .inl FX))] H ∧ va_D A [(sv, .inr (6, [.ref n, .ref co, .ref sv_keep, .ref sv_scaled])), (n, .inr (2, [.int n_nodes, .ref n_kind, .ref n_pay, .ref n_name, .ref n_ways, .ref n_held, .ref n_targets, .ref n_weights])), (n_kind, .inl (g 0, 12, .inl n_fkind)), (n_pay, .inl (g 0, 12, .inl n_fpay)), (n_ways, .inl (g 0, 12, .inl n_fways)), (n_held, .inl (g 0, 12, .inl n_fheld)), (n_targets, .inl (g 0, 36, .inl n_ftargets)), (vs, .inr (10, [.ref vs_part, .long vsw])), (vs_part, .inl (g 1, 12, .inr (.inl vsp))), (sv_keep, .inl (g 0, 12, .inl FX))] := ⟨_, hP, hD⟩
          have hP : va_P D vwCl [(sv, .inr (6, [.ref n, .ref co, .ref sv_keep, .ref sv_scaled])), (n, .inr (2, [.int n_nodes, .ref n_kind, .ref n_pay, .ref n_name, .ref n_ways, .ref n_held, .ref n_targets, .ref n_weights])), (n_kind, .inl (g 0, 12, .inl n_fkind)), (n_pay, .inl (g 0, 12, .inl n_fpay)), (n_ways, .inl (g 0, 12, .inl n_fways)), (n_held, .inl (g 0, 12, .inl n_fheld)), (n_targets, .inl (g 0, 36, .inl n_ftargets)), (vs, .inr (10, [.ref vs_part, .long vsw])), (vs_part, .inl (g 1, 12, .inr (.inl vsp))), (sv_keep, .inl (g 0, 12, .inl f_99782))] H := hP
          have hD : va_D A [(sv, .inr (6, [.ref n, .ref co, .ref sv_keep, .ref sv_scaled])), (n, .inr (2, [.int n_nodes, .ref n_kind, .ref n_pay, .ref n_name, .ref n_ways, .ref n_held, .ref n_targets, .ref n_weights])), (n_kind, .inl (g 0, 12, .inl n_fkind)), (n_pay, .inl (g 0, 12, .inl n_fpay)), (n_ways, .inl (g 0, 12, .inl n_fways)), (n_held, .inl (g 0, 12, .inl n_fheld)), (n_targets, .inl (g 0, 36, .inl n_ftargets)), (vs, .inr (10, [.ref vs_part, .long vsw])), (vs_part, .inl (g 1, 12, .inr (.inl vsp))), (sv_keep, .inl (g 0, 12, .inl f_99782))] := hD
          refine lv_iload hx hb dX6_goodOf_93 (lv_at hl 1 rfl) ?_
          have hP9 := hP.sub (ws' := [(sv, .inr (6, [.ref n, .ref co, .ref sv_keep, .ref sv_scaled])), (n, .inr (2, [.int n_nodes, .ref n_kind, .ref n_pay, .ref n_name, .ref n_ways, .ref n_held, .ref n_targets, .ref n_weights])), (n_kind, .inl (g 0, 12, .inl n_fkind)), (n_pay, .inl (g 0, 12, .inl n_fpay)), (n_ways, .inl (g 0, 12, .inl n_fways)), (n_held, .inl (g 0, 12, .inl n_fheld)), (n_targets, .inl (g 0, 36, .inl n_ftargets)), (vs, .inr (10, [.ref vs_part, .long vsw])), (vs_part, .inl (g 1, 12, .inr (.inl vsp))), (sv_keep, .inl (g 0, 12, .inl f_99782))]) [0, 1, 2, 3, 4, 5, 6, 7, 8, 9] rfl
          have hD9 := hD.sub (ws' := [(sv, .inr (6, [.ref n, .ref co, .ref sv_keep, .ref sv_scaled])), (n, .inr (2, [.int n_nodes, .ref n_kind, .ref n_pay, .ref n_name, .ref n_ways, .ref n_held, .ref n_targets, .ref n_weights])), (n_kind, .inl (g 0, 12, .inl n_fkind)), (n_pay, .inl (g 0, 12, .inl n_fpay)), (n_ways, .inl (g 0, 12, .inl n_fways)), (n_held, .inl (g 0, 12, .inl n_fheld)), (n_targets, .inl (g 0, 36, .inl n_ftargets)), (vs, .inr (10, [.ref vs_part, .long vsw])), (vs_part, .inl (g 1, 12, .inr (.inl vsp))), (sv_keep, .inl (g 0, 12, .inl f_99782))]) [0, 1, 2, 3, 4, 5, 6, 7, 8, 9] (by decide) rfl
          exact W.iret (v := x_99776) hx hb hr (fun t ht hW => ⟨⟨x_99776, (), rfl, trivial, f_99782, by rw [ht]; exact hP9, hD9⟩, hS.F ht⟩) hS.2.2 dX6_goodOf_95
        · skip
          have c_99779_i := Int32.lt_iff_toInt_lt.mp (Int32.not_le.mp c_99779)
          have h_99780 : 0 ≤ (x_99774 : Int32).toInt ∧ (x_99774 : Int32).toInt ≤ 2 := by have q1 := h_x_99774; have q2 := h_v_99778; omega
          have h_99781 : 1 ≤ (v_99778 : Int32).toInt ∧ (v_99778 : Int32).toInt ≤ 3 := by have q1 := h_x_99774; have q2 := h_v_99778; omega
          refine lv_aload_n hx hb dX6_goodOf_42 rfl (lv_at hl 3 rfl) ?_
          refine va_get (D := D) (ci := 6) (v := .ref sv_keep) (C := RX6) (T := TX6) (N := 4) hx hb hts inlX6 hown hK hP 0 rfl rfl 2 (by decide) (hts (Cond.fieldLink RX6 9 "ChanceRings$Solver" "keep" "[I") qw_587) (fun _ h9 => h9) rfl dX6_goodOf_43 ?_
          refine lv_iload_n hx hb dX6_goodOf_46 rfl (lv_at hl 4 rfl) ?_
          refine lv_iload_n hx hb dX6_goodOf_47 rfl (lv_at hl 2 rfl) ?_
          refine lv_iconst (v := 1) hx hb dX6_goodOf_48 (by decide) ?_
          refine lv_iload hx hb dX6_goodOf_49 (lv_at hl 0 rfl) ?_
          refine lv_ishl hx hb dX6_goodOf_51 ?_
          refine lv_topi (fun v_99783 v_99783_e => ?_)
          refine lv_iand hx hb dX6_goodOf_52 ?_
          refine lv_topi (fun v_99784 v_99784_e => ?_)
          refine va_iast hx hb hK hP hD hS 9 0 rfl rfl (tr_in h_p0 (by decide) (by decide)) dX6_goodOf_53 (fun H locs hP hD hS => ?_)
          obtain ⟨f_99785, hP, hD⟩ : ∃ FX : Nat → Int32, va_P D vwCl [(sv, .inr (6, [.ref n, .ref co, .ref sv_keep, .ref sv_scaled])), (n, .inr (2, [.int n_nodes, .ref n_kind, .ref n_pay, .ref n_name, .ref n_ways, .ref n_held, .ref n_targets, .ref n_weights])), (n_kind, .inl (g 0, 12, .inl n_fkind)), (n_pay, .inl (g 0, 12, .inl n_fpay)), (n_ways, .inl (g 0, 12, .inl n_fways)), (n_held, .inl (g 0, 12, .inl n_fheld)), (n_targets, .inl (g 0, 36, .inl n_ftargets)), (vs, .inr (10, [.ref vs_part, .long vsw])), (vs_part, .inl (g 1, 12, .inr (.inl vsp))), (sv_keep, .inl (g 0, 12, .inl FX))] H ∧ va_D A [(sv, .inr (6, [.ref n, .ref co, .ref sv_keep, .ref sv_scaled])), (n, .inr (2, [.int n_nodes, .ref n_kind, .ref n_pay, .ref n_name, .ref n_ways, .ref n_held, .ref n_targets, .ref n_weights])), (n_kind, .inl (g 0, 12, .inl n_fkind)), (n_pay, .inl (g 0, 12, .inl n_fpay)), (n_ways, .inl (g 0, 12, .inl n_fways)), (n_held, .inl (g 0, 12, .inl n_fheld)), (n_targets, .inl (g 0, 36, .inl n_ftargets)), (vs, .inr (10, [.ref vs_part, .long vsw])), (vs_part, .inl (g 1, 12, .inr (.inl vsp))), (sv_keep, .inl (g 0, 12, .inl FX))] := ⟨_, hP, hD⟩
          have hP : va_P D vwCl [(sv, .inr (6, [.ref n, .ref co, .ref sv_keep, .ref sv_scaled])), (n, .inr (2, [.int n_nodes, .ref n_kind, .ref n_pay, .ref n_name, .ref n_ways, .ref n_held, .ref n_targets, .ref n_weights])), (n_kind, .inl (g 0, 12, .inl n_fkind)), (n_pay, .inl (g 0, 12, .inl n_fpay)), (n_ways, .inl (g 0, 12, .inl n_fways)), (n_held, .inl (g 0, 12, .inl n_fheld)), (n_targets, .inl (g 0, 36, .inl n_ftargets)), (vs, .inr (10, [.ref vs_part, .long vsw])), (vs_part, .inl (g 1, 12, .inr (.inl vsp))), (sv_keep, .inl (g 0, 12, .inl f_99785))] H := hP
          have hD : va_D A [(sv, .inr (6, [.ref n, .ref co, .ref sv_keep, .ref sv_scaled])), (n, .inr (2, [.int n_nodes, .ref n_kind, .ref n_pay, .ref n_name, .ref n_ways, .ref n_held, .ref n_targets, .ref n_weights])), (n_kind, .inl (g 0, 12, .inl n_fkind)), (n_pay, .inl (g 0, 12, .inl n_fpay)), (n_ways, .inl (g 0, 12, .inl n_fways)), (n_held, .inl (g 0, 12, .inl n_fheld)), (n_targets, .inl (g 0, 36, .inl n_ftargets)), (vs, .inr (10, [.ref vs_part, .long vsw])), (vs_part, .inl (g 1, 12, .inr (.inl vsp))), (sv_keep, .inl (g 0, 12, .inl f_99785))] := hD
          refine lv_aload_n hx hb dX6_goodOf_54 rfl (lv_at hl 3 rfl) ?_
          refine va_get (D := D) (ci := 6) (v := .ref sv_keep) (C := RX6) (T := TX6) (N := 4) hx hb hts inlX6 hown hK hP 0 rfl rfl 2 (by decide) (hts (Cond.fieldLink RX6 9 "ChanceRings$Solver" "keep" "[I") qw_587) (fun _ h9 => h9) rfl dX6_goodOf_55 ?_
          refine lv_iload_n hx hb dX6_goodOf_58 rfl (lv_at hl 4 rfl) ?_
          refine va_iald hx hb hK hP 9 0 rfl rfl (tr_in h_p0 (by decide) (by decide)) dX6_goodOf_59 ?_
          refine lv_topi (fun v_99786 v_99786_e => ?_)
          refine lv_if_eq (tgt := 80) hx hb dX6_goodOf_60 (by decide) (fun c_99787 => ?_) (fun c_99787 => ?_)
          · skip
            have h_99788 : 0 ≤ (v_99786 : Int32).toInt ∧ (v_99786 : Int32).toInt ≤ 0 := by rw [c_99787]; exact ⟨by decide, by decide⟩
            obtain ⟨v_99789, v_99789_e⟩ : ∃ y : Int32, y = x_99774 + Int32.ofInt 1 := ⟨_, rfl⟩
            have h_v_99789 : 1 ≤ (v_99789 : Int32).toInt ∧ (v_99789 : Int32).toInt ≤ 3 := by rw [v_99789_e]; exact tr_add h_99780 (⟨by decide, by decide⟩ : 1 ≤ (Int32.ofInt 1 : Int32).toInt ∧ (Int32.ofInt 1 : Int32).toInt ≤ 1) (by decide) (by decide) (by decide) (by decide)
            have q_v_99789 : v_99789.toInt = x_99774.toInt + 1 := by rw [v_99789_e]; exact tr_addE h_99780 (⟨by decide, by decide⟩ : 1 ≤ (Int32.ofInt 1 : Int32).toInt ∧ (Int32.ofInt 1 : Int32).toInt ≤ 1) (by decide) (by decide)
            refine lv_iinc (v := v_99789) (lv' := [(5, .int v_99789), (4, .int x_99776), (3, .int v_99683), (0, .ref sv), (1, .int p0), (2, .ref vs)]) hx hb dX6_goodOf_80 hl (k := 0) rfl v_99789_e.symm (by decide) rfl (fun ls hl => ?_)
            refine lv_goto (tgt := 28) hx hb dX6_goodOf_83 (by decide) ?_
            exact ih_99777 v_99789 f_99785 x_99776 H _ ls (tr_w h_v_99789 (by decide) (by decide)) (by omega) (hP.sub [0, 1, 2, 3, 4, 5, 6, 7, 8, 9] rfl) (hD.sub [0, 1, 2, 3, 4, 5, 6, 7, 8, 9] (by decide) rfl) hS (lv_sub hl [0, 1, 2, 3, 4, 5] rfl)
          · skip
            refine lv_aload_n hx hb dX6_goodOf_63 rfl (lv_at hl 3 rfl) ?_
            refine lv_aload_n hx hb dX6_goodOf_64 rfl (lv_at hl 5 rfl) ?_
            have hPc := hP.sub (ws' := [(sv, .inr (6, [.ref n, .ref co, .ref sv_keep, .ref sv_scaled])), (n, .inr (2, [.int n_nodes, .ref n_kind, .ref n_pay, .ref n_name, .ref n_ways, .ref n_held, .ref n_targets, .ref n_weights])), (n_kind, .inl (g 0, 12, .inl n_fkind)), (n_pay, .inl (g 0, 12, .inl n_fpay)), (n_ways, .inl (g 0, 12, .inl n_fways)), (n_held, .inl (g 0, 12, .inl n_fheld)), (n_targets, .inl (g 0, 36, .inl n_ftargets)), (vs, .inr (10, [.ref vs_part, .long vsw])), (vs_part, .inl (g 1, 12, .inr (.inl vsp))), (sv_keep, .inl (g 0, 12, .inl f_99785))]) [0, 1, 2, 3, 4, 5, 6, 7, 8, 9] rfl
            refine vp_callSi (va_Run.run (va_runV (As := [.ref vs]) (rest := []) ⟨hx, hb, hml, hown, hts⟩ (c_X6_bringsAll l D g sv vs n co sv_keep sv_scaled n_nodes n_kind n_pay n_name n_ways n_held n_targets n_weights n_fkind n_fpay n_fways n_fheld n_ftargets vs_part vsw vsp f_99785 (tr_w h_n_nodes (by decide) (by decide)) (tr_wa h_n_fkind (by decide) (by decide)) (tr_wa h_n_fways (by decide) (by decide)) (tr_wa h_n_fheld (by decide) (by decide)) (tr_wa h_n_ftargets (by decide) (by decide))) (cwV 1 hts (tz_gV qw_593 qw_594 qw_595 qw_558 qw_596) rfl rfl rfl (by decide +kernel) ⟨Nat.le_of_ble_eq_true rfl, Nat.le_of_ble_eq_true rfl⟩) ⟨tz_blS, va_recv hK hPc (ci := 6) (q0 := 0) rfl rfl, tz_preS hPc hK⟩ rfl rfl hl.1 rfl (lv_room (Nat.le_of_ble_eq_true rfl)) dX6_goodOf_65 ⟨Nat.le_of_ble_eq_true rfl, Nat.le_of_ble_eq_true rfl⟩)) (fun r_99790 hw => ?_)
            have hw_99791 : 0 ≤ (r_99790 : Int32).toInt ∧ (r_99790 : Int32).toInt ≤ 1 := hw
            refine lv_if_eq (tgt := 80) hx hb dX6_goodOf_68 (by decide) (fun c_99792 => ?_) (fun c_99792 => ?_)
            · skip
              have c_99792_i := c_99792
              have c_99792_i : (r_99790 : Int32).toInt = (0 : Int32).toInt := congrArg Int32.toInt c_99792
              have h_99793 : 0 ≤ (r_99790 : Int32).toInt ∧ (r_99790 : Int32).toInt ≤ 0 := by have q1 := hw_99791; have q2 := (⟨by decide, by decide⟩ : 0 ≤ (0 : Int32).toInt ∧ (0 : Int32).toInt ≤ 0); omega
              obtain ⟨v_99795, v_99795_e⟩ : ∃ y : Int32, y = x_99774 + Int32.ofInt 1 := ⟨_, rfl⟩
              have h_v_99795 : 1 ≤ (v_99795 : Int32).toInt ∧ (v_99795 : Int32).toInt ≤ 3 := by rw [v_99795_e]; exact tr_add h_99780 (⟨by decide, by decide⟩ : 1 ≤ (Int32.ofInt 1 : Int32).toInt ∧ (Int32.ofInt 1 : Int32).toInt ≤ 1) (by decide) (by decide) (by decide) (by decide)
              have q_v_99795 : v_99795.toInt = x_99774.toInt + 1 := by rw [v_99795_e]; exact tr_addE h_99780 (⟨by decide, by decide⟩ : 1 ≤ (Int32.ofInt 1 : Int32).toInt ∧ (Int32.ofInt 1 : Int32).toInt ≤ 1) (by decide) (by decide)
              refine lv_iinc (v := v_99795) (lv' := [(5, .int v_99795), (4, .int x_99776), (3, .int v_99683), (0, .ref sv), (1, .int p0), (2, .ref vs)]) hx hb dX6_goodOf_80 hl (k := 0) rfl v_99795_e.symm (by decide) rfl (fun ls hl => ?_)
              refine lv_goto (tgt := 28) hx hb dX6_goodOf_83 (by decide) ?_
              exact ih_99777 v_99795 f_99785 x_99776 H _ ls (tr_w h_v_99795 (by decide) (by decide)) (by omega) (hP.sub [0, 1, 2, 3, 4, 5, 6, 7, 8, 9] rfl) (hD.sub [0, 1, 2, 3, 4, 5, 6, 7, 8, 9] (by decide) rfl) hS (lv_sub hl [0, 1, 2, 3, 4, 5] rfl)
            · skip
              have c_99792_i := c_99792
              have c_99792_i : ¬ (r_99790 : Int32).toInt = (0 : Int32).toInt := (fun q => c_99792 (Int32.toInt_inj.mp q))
              have h_99794 : 1 ≤ (r_99790 : Int32).toInt ∧ (r_99790 : Int32).toInt ≤ 1 := by have q1 := hw_99791; have q2 := (⟨by decide, by decide⟩ : 0 ≤ (0 : Int32).toInt ∧ (0 : Int32).toInt ≤ 0); omega
              refine lv_iload hx hb dX6_goodOf_71 (lv_at hl 1 rfl) ?_
              refine lv_iconst (v := 1) hx hb dX6_goodOf_73 (by decide) ?_
              refine lv_iload hx hb dX6_goodOf_74 (lv_at hl 0 rfl) ?_
              refine lv_ishl hx hb dX6_goodOf_76 ?_
              refine lv_topi (fun v_99796 v_99796_e => ?_)
              refine lv_ior hx hb dX6_goodOf_77 ?_
              refine lv_topi (fun v_99797 v_99797_e => ?_)
              refine lv_istore (lv' := [(4, .int v_99797), (5, .int x_99774), (3, .int v_99683), (0, .ref sv), (1, .int p0), (2, .ref vs)]) hx hb dX6_goodOf_78 hl (by decide) rfl (fun ls hl => ?_)
              obtain ⟨v_99798, v_99798_e⟩ : ∃ y : Int32, y = x_99774 + Int32.ofInt 1 := ⟨_, rfl⟩
              have h_v_99798 : 1 ≤ (v_99798 : Int32).toInt ∧ (v_99798 : Int32).toInt ≤ 3 := by rw [v_99798_e]; exact tr_add h_99780 (⟨by decide, by decide⟩ : 1 ≤ (Int32.ofInt 1 : Int32).toInt ∧ (Int32.ofInt 1 : Int32).toInt ≤ 1) (by decide) (by decide) (by decide) (by decide)
              have q_v_99798 : v_99798.toInt = x_99774.toInt + 1 := by rw [v_99798_e]; exact tr_addE h_99780 (⟨by decide, by decide⟩ : 1 ≤ (Int32.ofInt 1 : Int32).toInt ∧ (Int32.ofInt 1 : Int32).toInt ≤ 1) (by decide) (by decide)
              refine lv_iinc (v := v_99798) (lv' := [(5, .int v_99798), (4, .int v_99797), (3, .int v_99683), (0, .ref sv), (1, .int p0), (2, .ref vs)]) hx hb dX6_goodOf_80 hl (k := 1) rfl v_99798_e.symm (by decide) rfl (fun ls hl => ?_)
              refine lv_goto (tgt := 28) hx hb dX6_goodOf_83 (by decide) ?_
              exact ih_99777 v_99798 f_99785 v_99797 H _ ls (tr_w h_v_99798 (by decide) (by decide)) (by omega) (hP.sub [0, 1, 2, 3, 4, 5, 6, 7, 8, 9] rfl) (hD.sub [0, 1, 2, 3, 4, 5, 6, 7, 8, 9] (by decide) rfl) hS (lv_sub hl [0, 1, 2, 3, 4, 5] rfl)
    exact lp_99777 4 0 kpf 0 s.heap _ ls (⟨by decide, by decide⟩ : 0 ≤ (0 : Int32).toInt ∧ (0 : Int32).toInt ≤ 3) (by decide) (hP.sub [0, 1, 2, 3, 4, 5, 6, 7, 8, 9] rfl) (hD.sub [0, 1, 2, 3, 4, 5, 6, 7, 8, 9] (by decide) rfl) hS (lv_sub hl [0, 1, 2, 3, 4, 5] rfl)
  · skip
    have c_99685_i := c_99685
    have c_99685_i : (v_99684 : Int32).toInt = (2 : Int32).toInt := congrArg Int32.toInt c_99685
    have h_99686 : 2 ≤ (v_99684 : Int32).toInt ∧ (v_99684 : Int32).toInt ≤ 2 := by have q1 := h_v_99684; have q2 := (⟨by decide, by decide⟩ : 2 ≤ (2 : Int32).toInt ∧ (2 : Int32).toInt ≤ 2); omega
    refine lv_iload_n hx hb dX6_goodOf_20 rfl (lv_at hl 0 rfl) ?_
    have hP9 := hP.sub (ws' := [(sv, .inr (6, [.ref n, .ref co, .ref sv_keep, .ref sv_scaled])), (n, .inr (2, [.int n_nodes, .ref n_kind, .ref n_pay, .ref n_name, .ref n_ways, .ref n_held, .ref n_targets, .ref n_weights])), (n_kind, .inl (g 0, 12, .inl n_fkind)), (n_pay, .inl (g 0, 12, .inl n_fpay)), (n_ways, .inl (g 0, 12, .inl n_fways)), (n_held, .inl (g 0, 12, .inl n_fheld)), (n_targets, .inl (g 0, 36, .inl n_ftargets)), (vs, .inr (10, [.ref vs_part, .long vsw])), (vs_part, .inl (g 1, 12, .inr (.inl vsp))), (sv_keep, .inl (g 0, 12, .inl kpf))]) [0, 1, 2, 3, 4, 5, 6, 7, 8, 9] rfl
    have hD9 := hD.sub (ws' := [(sv, .inr (6, [.ref n, .ref co, .ref sv_keep, .ref sv_scaled])), (n, .inr (2, [.int n_nodes, .ref n_kind, .ref n_pay, .ref n_name, .ref n_ways, .ref n_held, .ref n_targets, .ref n_weights])), (n_kind, .inl (g 0, 12, .inl n_fkind)), (n_pay, .inl (g 0, 12, .inl n_fpay)), (n_ways, .inl (g 0, 12, .inl n_fways)), (n_held, .inl (g 0, 12, .inl n_fheld)), (n_targets, .inl (g 0, 36, .inl n_ftargets)), (vs, .inr (10, [.ref vs_part, .long vsw])), (vs_part, .inl (g 1, 12, .inr (.inl vsp))), (sv_keep, .inl (g 0, 12, .inl kpf))]) [0, 1, 2, 3, 4, 5, 6, 7, 8, 9] (by decide) rfl
    exact W.iret (v := v_99683) hx hb hr (fun t ht hW => ⟨⟨v_99683, (), rfl, trivial, kpf, by rw [ht]; exact hP9, hD9⟩, hS.F ht⟩) hS.2.2 dX6_goodOf_21
set_option maxHeartbeats 4000000 in
set_option maxRecDepth 100000 in
theorem c_X6_goodWays (l : Launch) (D : va_G) (g : Nat → ClassId) (sz : Nat) (sv : Nat) (p0 : Int32) (vs : Nat) (n : Nat) (co : Nat) (sv_keep : Nat) (sv_scaled : Nat) (n_nodes : Int32) (n_kind : Nat) (n_pay : Nat) (n_name : Nat) (n_ways : Nat) (n_held : Nat) (n_targets : Nat) (n_weights : Nat) (n_fkind : Nat → Int32) (n_fpay : Nat → Int32) (n_fways : Nat → Int32) (n_fheld : Nat → Int32) (n_ftargets : Nat → Int32) (vs_part : Nat) (vsw : Int64) (vsp : Nat → Int64) (kpf : Nat → Int32) (h_p0 : 0 ≤ (p0 : Int32).toInt ∧ (p0 : Int32).toInt ≤ 11) (h_n_nodes : 0 ≤ (n_nodes : Int32).toInt ∧ (n_nodes : Int32).toInt ≤ 12) (h_n_fkind : ∀ j : Nat, 0 ≤ (n_fkind j).toInt ∧ (n_fkind j).toInt ≤ 3) (h_n_fways : ∀ j : Nat, 0 ≤ (n_fways j).toInt ∧ (n_fways j).toInt ≤ 3) (h_n_fheld : ∀ j : Nat, (-1) ≤ (n_fheld j).toInt ∧ (n_fheld j).toInt ≤ 2) (h_n_ftargets : ∀ j : Nat, 0 ≤ (n_ftargets j).toInt ∧ (n_ftargets j).toInt ≤ 11) : Met l yX6_goodWays (.code yX6_goodWays cX6_goodWays 3 (some .int) :: wsL_law) ({ frames := 4, cells := 0, slots := 0, locals := 100 }) (va_Pc [.ref sv, .int p0, .ref vs] (fun U => U.heap.size = sz ∧ va_P D vwCl [(sv, .inr (6, [.ref n, .ref co, .ref sv_keep, .ref sv_scaled])), (n, .inr (2, [.int n_nodes, .ref n_kind, .ref n_pay, .ref n_name, .ref n_ways, .ref n_held, .ref n_targets, .ref n_weights])), (n_kind, .inl (g 0, 12, .inl n_fkind)), (n_pay, .inl (g 0, 12, .inl n_fpay)), (n_ways, .inl (g 0, 12, .inl n_fways)), (n_held, .inl (g 0, 12, .inl n_fheld)), (n_targets, .inl (g 0, 36, .inl n_ftargets)), (vs, .inr (10, [.ref vs_part, .long vsw])), (vs_part, .inl (g 1, 12, .inr (.inl vsp))), (sv_keep, .inl (g 0, 12, .inl kpf))] U.heap ∧ va_K D vwCl (TY g) U ∧ va_D (fun _ => True) [(sv, .inr (6, [.ref n, .ref co, .ref sv_keep, .ref sv_scaled])), (n, .inr (2, [.int n_nodes, .ref n_kind, .ref n_pay, .ref n_name, .ref n_ways, .ref n_held, .ref n_targets, .ref n_weights])), (n_kind, .inl (g 0, 12, .inl n_fkind)), (n_pay, .inl (g 0, 12, .inl n_fpay)), (n_ways, .inl (g 0, 12, .inl n_fways)), (n_held, .inl (g 0, 12, .inl n_fheld)), (n_targets, .inl (g 0, 36, .inl n_ftargets)), (vs, .inr (10, [.ref vs_part, .long vsw])), (vs_part, .inl (g 1, 12, .inr (.inl vsp))), (sv_keep, .inl (g 0, 12, .inl kpf))])) (va_Qi (fun r (_ : Unit) => True) (fun _ t => ∃ okp : Nat → Int32, va_P D vwCl [(sv, .inr (6, [.ref n, .ref co, .ref sv_keep, .ref sv_scaled])), (n, .inr (2, [.int n_nodes, .ref n_kind, .ref n_pay, .ref n_name, .ref n_ways, .ref n_held, .ref n_targets, .ref n_weights])), (n_kind, .inl (g 0, 12, .inl n_fkind)), (n_pay, .inl (g 0, 12, .inl n_fpay)), (n_ways, .inl (g 0, 12, .inl n_fways)), (n_held, .inl (g 0, 12, .inl n_fheld)), (n_targets, .inl (g 0, 36, .inl n_ftargets)), (vs, .inr (10, [.ref vs_part, .long vsw])), (vs_part, .inl (g 1, 12, .inr (.inl vsp))), (sv_keep, .inl (g 0, 12, .inl okp))] t.heap ∧ va_D (va_A [(sv, .inr (6, [.ref n, .ref co, .ref sv_keep, .ref sv_scaled])), (n, .inr (2, [.int n_nodes, .ref n_kind, .ref n_pay, .ref n_name, .ref n_ways, .ref n_held, .ref n_targets, .ref n_weights])), (n_kind, .inl (g 0, 12, .inl n_fkind)), (n_pay, .inl (g 0, 12, .inl n_fpay)), (n_ways, .inl (g 0, 12, .inl n_fways)), (n_held, .inl (g 0, 12, .inl n_fheld)), (n_targets, .inl (g 0, 36, .inl n_ftargets)), (vs, .inr (10, [.ref vs_part, .long vsw])), (vs_part, .inl (g 1, 12, .inr (.inl vsp))), (sv_keep, .inl (g 0, 12, .inl kpf))] sz) [(sv, .inr (6, [.ref n, .ref co, .ref sv_keep, .ref sv_scaled])), (n, .inr (2, [.int n_nodes, .ref n_kind, .ref n_pay, .ref n_name, .ref n_ways, .ref n_held, .ref n_targets, .ref n_weights])), (n_kind, .inl (g 0, 12, .inl n_fkind)), (n_pay, .inl (g 0, 12, .inl n_fpay)), (n_ways, .inl (g 0, 12, .inl n_fways)), (n_held, .inl (g 0, 12, .inl n_fheld)), (n_targets, .inl (g 0, 36, .inl n_ftargets)), (vs, .inr (10, [.ref vs_part, .long vsw])), (vs_part, .inl (g 1, 12, .inr (.inl vsp))), (sv_keep, .inl (g 0, 12, .inl okp))]) (va_A [(sv, .inr (6, [.ref n, .ref co, .ref sv_keep, .ref sv_scaled])), (n, .inr (2, [.int n_nodes, .ref n_kind, .ref n_pay, .ref n_name, .ref n_ways, .ref n_held, .ref n_targets, .ref n_weights])), (n_kind, .inl (g 0, 12, .inl n_fkind)), (n_pay, .inl (g 0, 12, .inl n_fpay)), (n_ways, .inl (g 0, 12, .inl n_fways)), (n_held, .inl (g 0, 12, .inl n_fheld)), (n_targets, .inl (g 0, 36, .inl n_ftargets)), (vs, .inr (10, [.ref vs_part, .long vsw])), (vs_part, .inl (g 1, 12, .inr (.inl vsp))), (sv_keep, .inl (g 0, 12, .inl kpf))] sz)) 0 0 (va_A [(sv, .inr (6, [.ref n, .ref co, .ref sv_keep, .ref sv_scaled])), (n, .inr (2, [.int n_nodes, .ref n_kind, .ref n_pay, .ref n_name, .ref n_ways, .ref n_held, .ref n_targets, .ref n_weights])), (n_kind, .inl (g 0, 12, .inl n_fkind)), (n_pay, .inl (g 0, 12, .inl n_fpay)), (n_ways, .inl (g 0, 12, .inl n_fways)), (n_held, .inl (g 0, 12, .inl n_fheld)), (n_targets, .inl (g 0, 36, .inl n_ftargets)), (vs, .inr (10, [.ref vs_part, .long vsw])), (vs_part, .inl (g 1, 12, .inr (.inl vsp))), (sv_keep, .inl (g 0, 12, .inl kpf))] sz) := by
  refine Met.ofW (cc := cX6_goodWays) (maxL := 3) (ret := (some .int)) (by decide) rfl ?_
  intro p e s m args below meth c s₁ B hml hv
  obtain ⟨ha, hsz, hP, hK, hD0⟩ := hv
  have hx := B.exec
  have hb := B.bytes
  have hr := B.returns
  have hts0 := atoms_spec (ws := (.code yX6_goodWays cX6_goodWays 3 (some .int) :: wsL_law)) B.pre
  have hts : ∀ w ∈ wsL_law, w.before args s = true := fun w h => hts0 w (List.mem_cons_of_mem _ h)
  have hown : s.vm.findClass RX6 = some m.cls := findClass_of_methodNamed B.named
  have hlocks := B.notSynchronized
  subst hsz
  have hD := hD0.self (sz := s.heap.size)
  generalize hAe : va_A [(sv, .inr (6, [.ref n, .ref co, .ref sv_keep, .ref sv_scaled])), (n, .inr (2, [.int n_nodes, .ref n_kind, .ref n_pay, .ref n_name, .ref n_ways, .ref n_held, .ref n_targets, .ref n_weights])), (n_kind, .inl (g 0, 12, .inl n_fkind)), (n_pay, .inl (g 0, 12, .inl n_fpay)), (n_ways, .inl (g 0, 12, .inl n_fways)), (n_held, .inl (g 0, 12, .inl n_fheld)), (n_targets, .inl (g 0, 36, .inl n_ftargets)), (vs, .inr (10, [.ref vs_part, .long vsw])), (vs_part, .inl (g 1, 12, .inr (.inl vsp))), (sv_keep, .inl (g 0, 12, .inl kpf))] s.heap.size = A at hD ⊢
  have hA : ∀ q : Nat, s.heap.size ≤ q → A q := fun q h => by rw [← hAe]; exact Or.inr h
  have hS : va_S A s.heap s.heap [] := va_S.rf
  have hP : va_P D vwCl [(sv, .inr (6, [.ref n, .ref co, .ref sv_keep, .ref sv_scaled])), (n, .inr (2, [.int n_nodes, .ref n_kind, .ref n_pay, .ref n_name, .ref n_ways, .ref n_held, .ref n_targets, .ref n_weights])), (n_kind, .inl (g 0, 12, .inl n_fkind)), (n_pay, .inl (g 0, 12, .inl n_fpay)), (n_ways, .inl (g 0, 12, .inl n_fways)), (n_held, .inl (g 0, 12, .inl n_fheld)), (n_targets, .inl (g 0, 36, .inl n_ftargets)), (vs, .inr (10, [.ref vs_part, .long vsw])), (vs_part, .inl (g 1, 12, .inr (.inl vsp))), (sv_keep, .inl (g 0, 12, .inl kpf))] s.heap := hP
  refine W.eq (g2 := entryFrame m ([.ref sv, .int p0, .ref vs] : List Value).toArray 3) (by rw [ha]) ?_
  have hl := lv_entry ([.ref sv, .int p0, .ref vs]) (n := 3) (Nat.le_of_ble_eq_true rfl)
  rw [lg_entry_eq]
  generalize (lg_sl ([.ref sv, .int p0, .ref vs]) ++ List.replicate (3 - (lg_sl ([.ref sv, .int p0, .ref vs])).length) Slot.unset).toArray = ls at hl ⊢
  have hl : lv_has ls 3 [(0, .ref sv), (1, .int p0), (2, .ref vs)] := hl
  refine lv_aload_n hx hb dX6_goodWays_0 rfl (lv_at hl 0 rfl) ?_
  refine lv_aload_n hx hb dX6_goodWays_1 rfl (lv_at hl 2 rfl) ?_
  have hPc := hP.sub (ws' := [(sv, .inr (6, [.ref n, .ref co, .ref sv_keep, .ref sv_scaled])), (n, .inr (2, [.int n_nodes, .ref n_kind, .ref n_pay, .ref n_name, .ref n_ways, .ref n_held, .ref n_targets, .ref n_weights])), (n_kind, .inl (g 0, 12, .inl n_fkind)), (n_pay, .inl (g 0, 12, .inl n_fpay)), (n_ways, .inl (g 0, 12, .inl n_fways)), (n_held, .inl (g 0, 12, .inl n_fheld)), (n_targets, .inl (g 0, 36, .inl n_ftargets)), (vs, .inr (10, [.ref vs_part, .long vsw])), (vs_part, .inl (g 1, 12, .inr (.inl vsp))), (sv_keep, .inl (g 0, 12, .inl kpf))]) [0, 1, 2, 3, 4, 5, 6, 7, 8, 9] rfl
  have hDc := hD.sub (ws' := [(sv, .inr (6, [.ref n, .ref co, .ref sv_keep, .ref sv_scaled])), (n, .inr (2, [.int n_nodes, .ref n_kind, .ref n_pay, .ref n_name, .ref n_ways, .ref n_held, .ref n_targets, .ref n_weights])), (n_kind, .inl (g 0, 12, .inl n_fkind)), (n_pay, .inl (g 0, 12, .inl n_fpay)), (n_ways, .inl (g 0, 12, .inl n_fways)), (n_held, .inl (g 0, 12, .inl n_fheld)), (n_targets, .inl (g 0, 36, .inl n_ftargets)), (vs, .inr (10, [.ref vs_part, .long vsw])), (vs_part, .inl (g 1, 12, .inr (.inl vsp))), (sv_keep, .inl (g 0, 12, .inl kpf))]) [0, 1, 2, 3, 4, 5, 6, 7, 8, 9] (by decide) rfl
  have hFc := va_free (wc := [(sv, .inr (6, [.ref n, .ref co, .ref sv_keep, .ref sv_scaled])), (n, .inr (2, [.int n_nodes, .ref n_kind, .ref n_pay, .ref n_name, .ref n_ways, .ref n_held, .ref n_targets, .ref n_weights])), (n_kind, .inl (g 0, 12, .inl n_fkind)), (n_pay, .inl (g 0, 12, .inl n_fpay)), (n_ways, .inl (g 0, 12, .inl n_fways)), (n_held, .inl (g 0, 12, .inl n_fheld)), (n_targets, .inl (g 0, 36, .inl n_ftargets)), (vs, .inr (10, [.ref vs_part, .long vsw])), (vs_part, .inl (g 1, 12, .inr (.inl vsp))), (sv_keep, .inl (g 0, 12, .inl kpf))]) hD hS hA [0, 1, 2, 3, 4, 5, 6, 7, 8, 9] rfl
  refine va_callv (va_runV (As := [.ref vs]) (rest := []) ⟨hx, hb, hml, hown, hts⟩ (c_X6_keepEven l D g s.heap.size sv vs n co sv_keep sv_scaled n_nodes n_kind n_pay n_name n_ways n_held n_targets n_weights n_fkind n_fpay n_fways n_fheld n_ftargets vs_part vsw vsp kpf (tr_w h_n_nodes (by decide) (by decide)) (tr_wa h_n_fkind (by decide) (by decide)) (tr_wa h_n_fways (by decide) (by decide)) (tr_wa h_n_fheld (by decide) (by decide)) (tr_wa h_n_ftargets (by decide) (by decide))) (cwV 1 hts (tz_gV qw_597 qw_598 qw_599 qw_558 qw_600) rfl rfl rfl (by decide +kernel) ⟨Nat.le_of_ble_eq_true rfl, Nat.le_of_ble_eq_true rfl⟩) ⟨tz_blQ, va_recv hK hPc (ci := 6) (q0 := 0) rfl rfl, tz_preQ hPc hK hDc⟩ rfl rfl hl.1 rfl (lv_room (Nat.le_of_ble_eq_true rfl)) dX6_goodWays_2 ⟨Nat.le_of_ble_eq_true rfl, Nat.le_of_ble_eq_true rfl⟩) hS (fun q _ h => hFc q h) hFc (fun u t H1 locs ht hvm hw hB hz1 hk1 hS => ?_)
  obtain ⟨okp_99800, hP1, hD1⟩ := hB
  rw [ht] at hP1
  obtain ⟨hP, hD⟩ := va_join (wr := []) (w1 := [(sv, .inr (6, [.ref n, .ref co, .ref sv_keep, .ref sv_scaled])), (n, .inr (2, [.int n_nodes, .ref n_kind, .ref n_pay, .ref n_name, .ref n_ways, .ref n_held, .ref n_targets, .ref n_weights])), (n_kind, .inl (g 0, 12, .inl n_fkind)), (n_pay, .inl (g 0, 12, .inl n_fpay)), (n_ways, .inl (g 0, 12, .inl n_fways)), (n_held, .inl (g 0, 12, .inl n_fheld)), (n_targets, .inl (g 0, 36, .inl n_ftargets)), (vs, .inr (10, [.ref vs_part, .long vsw])), (vs_part, .inl (g 1, 12, .inr (.inl vsp))), (sv_keep, .inl (g 0, 12, .inl okp_99800))]) hP hD [0, 1, 2, 3, 4, 5, 6, 7, 8, 9] [] rfl rfl (by decide) (by decide) hk1 hFc hP1 hD1
  generalize H1 = H at hP hS ⊢
  have hP : va_P D vwCl [(sv, .inr (6, [.ref n, .ref co, .ref sv_keep, .ref sv_scaled])), (n, .inr (2, [.int n_nodes, .ref n_kind, .ref n_pay, .ref n_name, .ref n_ways, .ref n_held, .ref n_targets, .ref n_weights])), (n_kind, .inl (g 0, 12, .inl n_fkind)), (n_pay, .inl (g 0, 12, .inl n_fpay)), (n_ways, .inl (g 0, 12, .inl n_fways)), (n_held, .inl (g 0, 12, .inl n_fheld)), (n_targets, .inl (g 0, 36, .inl n_ftargets)), (vs, .inr (10, [.ref vs_part, .long vsw])), (vs_part, .inl (g 1, 12, .inr (.inl vsp))), (sv_keep, .inl (g 0, 12, .inl okp_99800))] H := hP
  have hD : va_D A [(sv, .inr (6, [.ref n, .ref co, .ref sv_keep, .ref sv_scaled])), (n, .inr (2, [.int n_nodes, .ref n_kind, .ref n_pay, .ref n_name, .ref n_ways, .ref n_held, .ref n_targets, .ref n_weights])), (n_kind, .inl (g 0, 12, .inl n_fkind)), (n_pay, .inl (g 0, 12, .inl n_fpay)), (n_ways, .inl (g 0, 12, .inl n_fways)), (n_held, .inl (g 0, 12, .inl n_fheld)), (n_targets, .inl (g 0, 36, .inl n_ftargets)), (vs, .inr (10, [.ref vs_part, .long vsw])), (vs_part, .inl (g 1, 12, .inr (.inl vsp))), (sv_keep, .inl (g 0, 12, .inl okp_99800))] := hD
  refine lv_aload_n hx hb dX6_goodWays_5 rfl (lv_at hl 0 rfl) ?_
  refine lv_iload_n hx hb dX6_goodWays_6 rfl (lv_at hl 1 rfl) ?_
  refine lv_aload_n hx hb dX6_goodWays_7 rfl (lv_at hl 2 rfl) ?_
  have hPc := hP.sub (ws' := [(sv, .inr (6, [.ref n, .ref co, .ref sv_keep, .ref sv_scaled])), (n, .inr (2, [.int n_nodes, .ref n_kind, .ref n_pay, .ref n_name, .ref n_ways, .ref n_held, .ref n_targets, .ref n_weights])), (n_kind, .inl (g 0, 12, .inl n_fkind)), (n_pay, .inl (g 0, 12, .inl n_fpay)), (n_ways, .inl (g 0, 12, .inl n_fways)), (n_held, .inl (g 0, 12, .inl n_fheld)), (n_targets, .inl (g 0, 36, .inl n_ftargets)), (vs, .inr (10, [.ref vs_part, .long vsw])), (vs_part, .inl (g 1, 12, .inr (.inl vsp))), (sv_keep, .inl (g 0, 12, .inl okp_99800))]) [0, 1, 2, 3, 4, 5, 6, 7, 8, 9] rfl
  have hDc := hD.sub (ws' := [(sv, .inr (6, [.ref n, .ref co, .ref sv_keep, .ref sv_scaled])), (n, .inr (2, [.int n_nodes, .ref n_kind, .ref n_pay, .ref n_name, .ref n_ways, .ref n_held, .ref n_targets, .ref n_weights])), (n_kind, .inl (g 0, 12, .inl n_fkind)), (n_pay, .inl (g 0, 12, .inl n_fpay)), (n_ways, .inl (g 0, 12, .inl n_fways)), (n_held, .inl (g 0, 12, .inl n_fheld)), (n_targets, .inl (g 0, 36, .inl n_ftargets)), (vs, .inr (10, [.ref vs_part, .long vsw])), (vs_part, .inl (g 1, 12, .inr (.inl vsp))), (sv_keep, .inl (g 0, 12, .inl okp_99800))]) [0, 1, 2, 3, 4, 5, 6, 7, 8, 9] (by decide) rfl
  have hFc := va_free (wc := [(sv, .inr (6, [.ref n, .ref co, .ref sv_keep, .ref sv_scaled])), (n, .inr (2, [.int n_nodes, .ref n_kind, .ref n_pay, .ref n_name, .ref n_ways, .ref n_held, .ref n_targets, .ref n_weights])), (n_kind, .inl (g 0, 12, .inl n_fkind)), (n_pay, .inl (g 0, 12, .inl n_fpay)), (n_ways, .inl (g 0, 12, .inl n_fways)), (n_held, .inl (g 0, 12, .inl n_fheld)), (n_targets, .inl (g 0, 36, .inl n_ftargets)), (vs, .inr (10, [.ref vs_part, .long vsw])), (vs_part, .inl (g 1, 12, .inr (.inl vsp))), (sv_keep, .inl (g 0, 12, .inl okp_99800))]) hD hS hA [0, 1, 2, 3, 4, 5, 6, 7, 8, 9] rfl
  refine va_calli (va_runV (As := [.int p0, .ref vs]) (rest := []) ⟨hx, hb, hml, hown, hts⟩ (c_X6_goodOf l D g H.size sv p0 vs n co sv_keep sv_scaled n_nodes n_kind n_pay n_name n_ways n_held n_targets n_weights n_fkind n_fpay n_fways n_fheld n_ftargets vs_part vsw vsp okp_99800 (tr_w h_p0 (by decide) (by decide)) (tr_w h_n_nodes (by decide) (by decide)) (tr_wa h_n_fkind (by decide) (by decide)) (tr_wa h_n_fways (by decide) (by decide)) (tr_wa h_n_fheld (by decide) (by decide)) (tr_wa h_n_ftargets (by decide) (by decide))) (cwV 2 hts (tz_gV qw_601 qw_602 qw_603 qw_558 qw_604) rfl rfl rfl (by decide +kernel) ⟨Nat.le_of_ble_eq_true rfl, Nat.le_of_ble_eq_true rfl⟩) ⟨tz_blQ, va_recv hK hPc (ci := 6) (q0 := 0) rfl rfl, tz_preQ hPc hK hDc⟩ rfl rfl hl.1 rfl (lv_room (Nat.le_of_ble_eq_true rfl)) dX6_goodWays_8 ⟨Nat.le_of_ble_eq_true rfl, Nat.le_of_ble_eq_true rfl⟩) hS (fun q _ h => hFc q h) hFc (fun r_99801 u t H1 locs ht hvm hw hB hz1 hk1 hS => ?_)
  obtain ⟨okp_99802, hP1, hD1⟩ := hB
  rw [ht] at hP1
  obtain ⟨hP, hD⟩ := va_join (wr := []) (w1 := [(sv, .inr (6, [.ref n, .ref co, .ref sv_keep, .ref sv_scaled])), (n, .inr (2, [.int n_nodes, .ref n_kind, .ref n_pay, .ref n_name, .ref n_ways, .ref n_held, .ref n_targets, .ref n_weights])), (n_kind, .inl (g 0, 12, .inl n_fkind)), (n_pay, .inl (g 0, 12, .inl n_fpay)), (n_ways, .inl (g 0, 12, .inl n_fways)), (n_held, .inl (g 0, 12, .inl n_fheld)), (n_targets, .inl (g 0, 36, .inl n_ftargets)), (vs, .inr (10, [.ref vs_part, .long vsw])), (vs_part, .inl (g 1, 12, .inr (.inl vsp))), (sv_keep, .inl (g 0, 12, .inl okp_99802))]) hP hD [0, 1, 2, 3, 4, 5, 6, 7, 8, 9] [] rfl rfl (by decide) (by decide) hk1 hFc hP1 hD1
  generalize H1 = H at hP hS ⊢
  have hP : va_P D vwCl [(sv, .inr (6, [.ref n, .ref co, .ref sv_keep, .ref sv_scaled])), (n, .inr (2, [.int n_nodes, .ref n_kind, .ref n_pay, .ref n_name, .ref n_ways, .ref n_held, .ref n_targets, .ref n_weights])), (n_kind, .inl (g 0, 12, .inl n_fkind)), (n_pay, .inl (g 0, 12, .inl n_fpay)), (n_ways, .inl (g 0, 12, .inl n_fways)), (n_held, .inl (g 0, 12, .inl n_fheld)), (n_targets, .inl (g 0, 36, .inl n_ftargets)), (vs, .inr (10, [.ref vs_part, .long vsw])), (vs_part, .inl (g 1, 12, .inr (.inl vsp))), (sv_keep, .inl (g 0, 12, .inl okp_99802))] H := hP
  have hD : va_D A [(sv, .inr (6, [.ref n, .ref co, .ref sv_keep, .ref sv_scaled])), (n, .inr (2, [.int n_nodes, .ref n_kind, .ref n_pay, .ref n_name, .ref n_ways, .ref n_held, .ref n_targets, .ref n_weights])), (n_kind, .inl (g 0, 12, .inl n_fkind)), (n_pay, .inl (g 0, 12, .inl n_fpay)), (n_ways, .inl (g 0, 12, .inl n_fways)), (n_held, .inl (g 0, 12, .inl n_fheld)), (n_targets, .inl (g 0, 36, .inl n_ftargets)), (vs, .inr (10, [.ref vs_part, .long vsw])), (vs_part, .inl (g 1, 12, .inr (.inl vsp))), (sv_keep, .inl (g 0, 12, .inl okp_99802))] := hD
  have hP9 := hP.sub (ws' := [(sv, .inr (6, [.ref n, .ref co, .ref sv_keep, .ref sv_scaled])), (n, .inr (2, [.int n_nodes, .ref n_kind, .ref n_pay, .ref n_name, .ref n_ways, .ref n_held, .ref n_targets, .ref n_weights])), (n_kind, .inl (g 0, 12, .inl n_fkind)), (n_pay, .inl (g 0, 12, .inl n_fpay)), (n_ways, .inl (g 0, 12, .inl n_fways)), (n_held, .inl (g 0, 12, .inl n_fheld)), (n_targets, .inl (g 0, 36, .inl n_ftargets)), (vs, .inr (10, [.ref vs_part, .long vsw])), (vs_part, .inl (g 1, 12, .inr (.inl vsp))), (sv_keep, .inl (g 0, 12, .inl okp_99802))]) [0, 1, 2, 3, 4, 5, 6, 7, 8, 9] rfl
  have hD9 := hD.sub (ws' := [(sv, .inr (6, [.ref n, .ref co, .ref sv_keep, .ref sv_scaled])), (n, .inr (2, [.int n_nodes, .ref n_kind, .ref n_pay, .ref n_name, .ref n_ways, .ref n_held, .ref n_targets, .ref n_weights])), (n_kind, .inl (g 0, 12, .inl n_fkind)), (n_pay, .inl (g 0, 12, .inl n_fpay)), (n_ways, .inl (g 0, 12, .inl n_fways)), (n_held, .inl (g 0, 12, .inl n_fheld)), (n_targets, .inl (g 0, 36, .inl n_ftargets)), (vs, .inr (10, [.ref vs_part, .long vsw])), (vs_part, .inl (g 1, 12, .inr (.inl vsp))), (sv_keep, .inl (g 0, 12, .inl okp_99802))]) [0, 1, 2, 3, 4, 5, 6, 7, 8, 9] (by decide) rfl
  exact W.iret (v := r_99801) hx hb hr (fun t ht hW => ⟨⟨r_99801, (), rfl, trivial, okp_99802, by rw [ht]; exact hP9, hD9⟩, hS.F ht⟩) hS.2.2 dX6_goodWays_11
set_option maxHeartbeats 4000000 in
set_option maxRecDepth 100000 in
theorem c_X6_findBest (l : Launch) (D : va_G) (g : Nat → ClassId) (sz : Nat) (sv : Nat) (vs : Nat) (pl : Nat) (n : Nat) (co : Nat) (sv_keep : Nat) (sv_scaled : Nat) (n_nodes : Int32) (n_kind : Nat) (n_pay : Nat) (n_name : Nat) (n_ways : Nat) (n_held : Nat) (n_targets : Nat) (n_weights : Nat) (n_fkind : Nat → Int32) (n_fpay : Nat → Int32) (n_fways : Nat → Int32) (n_fheld : Nat → Int32) (n_ftargets : Nat → Int32) (vs_part : Nat) (vsw : Int64) (vsp : Nat → Int64) (kpf : Nat → Int32) (plf : Nat → Int32) (h_n_nodes : 0 ≤ (n_nodes : Int32).toInt ∧ (n_nodes : Int32).toInt ≤ 12) (h_n_fkind : ∀ j : Nat, 0 ≤ (n_fkind j).toInt ∧ (n_fkind j).toInt ≤ 3) (h_n_fways : ∀ j : Nat, 0 ≤ (n_fways j).toInt ∧ (n_fways j).toInt ≤ 3) (h_n_fheld : ∀ j : Nat, (-1) ≤ (n_fheld j).toInt ∧ (n_fheld j).toInt ≤ 2) (h_n_ftargets : ∀ j : Nat, 0 ≤ (n_ftargets j).toInt ∧ (n_ftargets j).toInt ≤ 11) (h_plf : ∀ j : Nat, 0 ≤ (plf j).toInt ∧ (plf j).toInt ≤ 2) : Met l yX6_findBest (.code yX6_findBest cX6_findBest 4 none :: wsL_law) ({ frames := 4, cells := 0, slots := 0, locals := 100 }) (va_Pc [.ref sv, .ref vs, .ref pl] (fun U => U.heap.size = sz ∧ va_P D vwCl [(sv, .inr (6, [.ref n, .ref co, .ref sv_keep, .ref sv_scaled])), (n, .inr (2, [.int n_nodes, .ref n_kind, .ref n_pay, .ref n_name, .ref n_ways, .ref n_held, .ref n_targets, .ref n_weights])), (n_kind, .inl (g 0, 12, .inl n_fkind)), (n_pay, .inl (g 0, 12, .inl n_fpay)), (n_ways, .inl (g 0, 12, .inl n_fways)), (n_held, .inl (g 0, 12, .inl n_fheld)), (n_targets, .inl (g 0, 36, .inl n_ftargets)), (vs, .inr (10, [.ref vs_part, .long vsw])), (vs_part, .inl (g 1, 12, .inr (.inl vsp))), (sv_keep, .inl (g 0, 12, .inl kpf)), (pl, .inl (g 0, 12, .inl plf))] U.heap ∧ va_K D vwCl (TY g) U ∧ va_D (fun _ => True) [(sv, .inr (6, [.ref n, .ref co, .ref sv_keep, .ref sv_scaled])), (n, .inr (2, [.int n_nodes, .ref n_kind, .ref n_pay, .ref n_name, .ref n_ways, .ref n_held, .ref n_targets, .ref n_weights])), (n_kind, .inl (g 0, 12, .inl n_fkind)), (n_pay, .inl (g 0, 12, .inl n_fpay)), (n_ways, .inl (g 0, 12, .inl n_fways)), (n_held, .inl (g 0, 12, .inl n_fheld)), (n_targets, .inl (g 0, 36, .inl n_ftargets)), (vs, .inr (10, [.ref vs_part, .long vsw])), (vs_part, .inl (g 1, 12, .inr (.inl vsp))), (sv_keep, .inl (g 0, 12, .inl kpf)), (pl, .inl (g 0, 12, .inl plf))])) (va_Qv (fun (_ : Unit) => True) (fun _ t => ∃ okp : Nat → Int32, ∃ opl : Nat → Int32, (∀ j : Nat, 0 ≤ (opl j).toInt ∧ (opl j).toInt ≤ 2) ∧ va_P D vwCl [(sv, .inr (6, [.ref n, .ref co, .ref sv_keep, .ref sv_scaled])), (n, .inr (2, [.int n_nodes, .ref n_kind, .ref n_pay, .ref n_name, .ref n_ways, .ref n_held, .ref n_targets, .ref n_weights])), (n_kind, .inl (g 0, 12, .inl n_fkind)), (n_pay, .inl (g 0, 12, .inl n_fpay)), (n_ways, .inl (g 0, 12, .inl n_fways)), (n_held, .inl (g 0, 12, .inl n_fheld)), (n_targets, .inl (g 0, 36, .inl n_ftargets)), (vs, .inr (10, [.ref vs_part, .long vsw])), (vs_part, .inl (g 1, 12, .inr (.inl vsp))), (sv_keep, .inl (g 0, 12, .inl okp)), (pl, .inl (g 0, 12, .inl opl))] t.heap ∧ va_D (va_A [(sv, .inr (6, [.ref n, .ref co, .ref sv_keep, .ref sv_scaled])), (n, .inr (2, [.int n_nodes, .ref n_kind, .ref n_pay, .ref n_name, .ref n_ways, .ref n_held, .ref n_targets, .ref n_weights])), (n_kind, .inl (g 0, 12, .inl n_fkind)), (n_pay, .inl (g 0, 12, .inl n_fpay)), (n_ways, .inl (g 0, 12, .inl n_fways)), (n_held, .inl (g 0, 12, .inl n_fheld)), (n_targets, .inl (g 0, 36, .inl n_ftargets)), (vs, .inr (10, [.ref vs_part, .long vsw])), (vs_part, .inl (g 1, 12, .inr (.inl vsp))), (sv_keep, .inl (g 0, 12, .inl kpf)), (pl, .inl (g 0, 12, .inl plf))] sz) [(sv, .inr (6, [.ref n, .ref co, .ref sv_keep, .ref sv_scaled])), (n, .inr (2, [.int n_nodes, .ref n_kind, .ref n_pay, .ref n_name, .ref n_ways, .ref n_held, .ref n_targets, .ref n_weights])), (n_kind, .inl (g 0, 12, .inl n_fkind)), (n_pay, .inl (g 0, 12, .inl n_fpay)), (n_ways, .inl (g 0, 12, .inl n_fways)), (n_held, .inl (g 0, 12, .inl n_fheld)), (n_targets, .inl (g 0, 36, .inl n_ftargets)), (vs, .inr (10, [.ref vs_part, .long vsw])), (vs_part, .inl (g 1, 12, .inr (.inl vsp))), (sv_keep, .inl (g 0, 12, .inl okp)), (pl, .inl (g 0, 12, .inl opl))]) (va_A [(sv, .inr (6, [.ref n, .ref co, .ref sv_keep, .ref sv_scaled])), (n, .inr (2, [.int n_nodes, .ref n_kind, .ref n_pay, .ref n_name, .ref n_ways, .ref n_held, .ref n_targets, .ref n_weights])), (n_kind, .inl (g 0, 12, .inl n_fkind)), (n_pay, .inl (g 0, 12, .inl n_fpay)), (n_ways, .inl (g 0, 12, .inl n_fways)), (n_held, .inl (g 0, 12, .inl n_fheld)), (n_targets, .inl (g 0, 36, .inl n_ftargets)), (vs, .inr (10, [.ref vs_part, .long vsw])), (vs_part, .inl (g 1, 12, .inr (.inl vsp))), (sv_keep, .inl (g 0, 12, .inl kpf)), (pl, .inl (g 0, 12, .inl plf))] sz)) 0 0 (va_A [(sv, .inr (6, [.ref n, .ref co, .ref sv_keep, .ref sv_scaled])), (n, .inr (2, [.int n_nodes, .ref n_kind, .ref n_pay, .ref n_name, .ref n_ways, .ref n_held, .ref n_targets, .ref n_weights])), (n_kind, .inl (g 0, 12, .inl n_fkind)), (n_pay, .inl (g 0, 12, .inl n_fpay)), (n_ways, .inl (g 0, 12, .inl n_fways)), (n_held, .inl (g 0, 12, .inl n_fheld)), (n_targets, .inl (g 0, 36, .inl n_ftargets)), (vs, .inr (10, [.ref vs_part, .long vsw])), (vs_part, .inl (g 1, 12, .inr (.inl vsp))), (sv_keep, .inl (g 0, 12, .inl kpf)), (pl, .inl (g 0, 12, .inl plf))] sz) := by
  refine Met.ofW (cc := cX6_findBest) (maxL := 4) (ret := none) (by decide) rfl ?_
  intro p e s m args below meth c s₁ B hml hv
  obtain ⟨ha, hsz, hP, hK, hD0⟩ := hv
  have hx := B.exec
  have hb := B.bytes
  have hr := B.returns
  have hts0 := atoms_spec (ws := (.code yX6_findBest cX6_findBest 4 none :: wsL_law)) B.pre
  have hts : ∀ w ∈ wsL_law, w.before args s = true := fun w h => hts0 w (List.mem_cons_of_mem _ h)
  have hown : s.vm.findClass RX6 = some m.cls := findClass_of_methodNamed B.named
  have hlocks := B.notSynchronized
  subst hsz
  have hD := hD0.self (sz := s.heap.size)
  generalize hAe : va_A [(sv, .inr (6, [.ref n, .ref co, .ref sv_keep, .ref sv_scaled])), (n, .inr (2, [.int n_nodes, .ref n_kind, .ref n_pay, .ref n_name, .ref n_ways, .ref n_held, .ref n_targets, .ref n_weights])), (n_kind, .inl (g 0, 12, .inl n_fkind)), (n_pay, .inl (g 0, 12, .inl n_fpay)), (n_ways, .inl (g 0, 12, .inl n_fways)), (n_held, .inl (g 0, 12, .inl n_fheld)), (n_targets, .inl (g 0, 36, .inl n_ftargets)), (vs, .inr (10, [.ref vs_part, .long vsw])), (vs_part, .inl (g 1, 12, .inr (.inl vsp))), (sv_keep, .inl (g 0, 12, .inl kpf)), (pl, .inl (g 0, 12, .inl plf))] s.heap.size = A at hD ⊢
  have hA : ∀ q : Nat, s.heap.size ≤ q → A q := fun q h => by rw [← hAe]; exact Or.inr h
  have hS : va_S A s.heap s.heap [] := va_S.rf
  have hP : va_P D vwCl [(sv, .inr (6, [.ref n, .ref co, .ref sv_keep, .ref sv_scaled])), (n, .inr (2, [.int n_nodes, .ref n_kind, .ref n_pay, .ref n_name, .ref n_ways, .ref n_held, .ref n_targets, .ref n_weights])), (n_kind, .inl (g 0, 12, .inl n_fkind)), (n_pay, .inl (g 0, 12, .inl n_fpay)), (n_ways, .inl (g 0, 12, .inl n_fways)), (n_held, .inl (g 0, 12, .inl n_fheld)), (n_targets, .inl (g 0, 36, .inl n_ftargets)), (vs, .inr (10, [.ref vs_part, .long vsw])), (vs_part, .inl (g 1, 12, .inr (.inl vsp))), (sv_keep, .inl (g 0, 12, .inl kpf)), (pl, .inl (g 0, 12, .inl plf))] s.heap := hP
  refine W.eq (g2 := entryFrame m ([.ref sv, .ref vs, .ref pl] : List Value).toArray 4) (by rw [ha]) ?_
  have hl := lv_entry ([.ref sv, .ref vs, .ref pl]) (n := 4) (Nat.le_of_ble_eq_true rfl)
  rw [lg_entry_eq]
  generalize (lg_sl ([.ref sv, .ref vs, .ref pl]) ++ List.replicate (4 - (lg_sl ([.ref sv, .ref vs, .ref pl])).length) Slot.unset).toArray = ls at hl ⊢
  have hl : lv_has ls 4 [(0, .ref sv), (1, .ref vs), (2, .ref pl)] := hl
  refine lv_aload_n hx hb dX6_findBest_0 rfl (lv_at hl 0 rfl) ?_
  refine lv_aload_n hx hb dX6_findBest_1 rfl (lv_at hl 1 rfl) ?_
  have hPc := hP.sub (ws' := [(sv, .inr (6, [.ref n, .ref co, .ref sv_keep, .ref sv_scaled])), (n, .inr (2, [.int n_nodes, .ref n_kind, .ref n_pay, .ref n_name, .ref n_ways, .ref n_held, .ref n_targets, .ref n_weights])), (n_kind, .inl (g 0, 12, .inl n_fkind)), (n_pay, .inl (g 0, 12, .inl n_fpay)), (n_ways, .inl (g 0, 12, .inl n_fways)), (n_held, .inl (g 0, 12, .inl n_fheld)), (n_targets, .inl (g 0, 36, .inl n_ftargets)), (vs, .inr (10, [.ref vs_part, .long vsw])), (vs_part, .inl (g 1, 12, .inr (.inl vsp))), (sv_keep, .inl (g 0, 12, .inl kpf))]) [0, 1, 2, 3, 4, 5, 6, 7, 8, 9] rfl
  have hDc := hD.sub (ws' := [(sv, .inr (6, [.ref n, .ref co, .ref sv_keep, .ref sv_scaled])), (n, .inr (2, [.int n_nodes, .ref n_kind, .ref n_pay, .ref n_name, .ref n_ways, .ref n_held, .ref n_targets, .ref n_weights])), (n_kind, .inl (g 0, 12, .inl n_fkind)), (n_pay, .inl (g 0, 12, .inl n_fpay)), (n_ways, .inl (g 0, 12, .inl n_fways)), (n_held, .inl (g 0, 12, .inl n_fheld)), (n_targets, .inl (g 0, 36, .inl n_ftargets)), (vs, .inr (10, [.ref vs_part, .long vsw])), (vs_part, .inl (g 1, 12, .inr (.inl vsp))), (sv_keep, .inl (g 0, 12, .inl kpf))]) [0, 1, 2, 3, 4, 5, 6, 7, 8, 9] (by decide) rfl
  have hFc := va_free (wc := [(sv, .inr (6, [.ref n, .ref co, .ref sv_keep, .ref sv_scaled])), (n, .inr (2, [.int n_nodes, .ref n_kind, .ref n_pay, .ref n_name, .ref n_ways, .ref n_held, .ref n_targets, .ref n_weights])), (n_kind, .inl (g 0, 12, .inl n_fkind)), (n_pay, .inl (g 0, 12, .inl n_fpay)), (n_ways, .inl (g 0, 12, .inl n_fways)), (n_held, .inl (g 0, 12, .inl n_fheld)), (n_targets, .inl (g 0, 36, .inl n_ftargets)), (vs, .inr (10, [.ref vs_part, .long vsw])), (vs_part, .inl (g 1, 12, .inr (.inl vsp))), (sv_keep, .inl (g 0, 12, .inl kpf))]) hD hS hA [0, 1, 2, 3, 4, 5, 6, 7, 8, 9] rfl
  refine va_callv (va_runV (As := [.ref vs]) (rest := []) ⟨hx, hb, hml, hown, hts⟩ (c_X6_keepEven l D g s.heap.size sv vs n co sv_keep sv_scaled n_nodes n_kind n_pay n_name n_ways n_held n_targets n_weights n_fkind n_fpay n_fways n_fheld n_ftargets vs_part vsw vsp kpf (tr_w h_n_nodes (by decide) (by decide)) (tr_wa h_n_fkind (by decide) (by decide)) (tr_wa h_n_fways (by decide) (by decide)) (tr_wa h_n_fheld (by decide) (by decide)) (tr_wa h_n_ftargets (by decide) (by decide))) (cwV 1 hts (tz_gV qw_597 qw_598 qw_599 qw_558 qw_600) rfl rfl rfl (by decide +kernel) ⟨Nat.le_of_ble_eq_true rfl, Nat.le_of_ble_eq_true rfl⟩) ⟨tz_blQ, va_recv hK hPc (ci := 6) (q0 := 0) rfl rfl, tz_preQ hPc hK hDc⟩ rfl rfl hl.1 rfl (lv_room (Nat.le_of_ble_eq_true rfl)) dX6_findBest_2 ⟨Nat.le_of_ble_eq_true rfl, Nat.le_of_ble_eq_true rfl⟩) hS (fun q _ h => hFc q h) hFc (fun u t H1 locs ht hvm hw hB hz1 hk1 hS => ?_)
  obtain ⟨okp_99804, hP1, hD1⟩ := hB
  rw [ht] at hP1
  obtain ⟨hP, hD⟩ := va_join (wr := [(pl, .inl (g 0, 12, .inl plf))]) (w1 := [(sv, .inr (6, [.ref n, .ref co, .ref sv_keep, .ref sv_scaled])), (n, .inr (2, [.int n_nodes, .ref n_kind, .ref n_pay, .ref n_name, .ref n_ways, .ref n_held, .ref n_targets, .ref n_weights])), (n_kind, .inl (g 0, 12, .inl n_fkind)), (n_pay, .inl (g 0, 12, .inl n_fpay)), (n_ways, .inl (g 0, 12, .inl n_fways)), (n_held, .inl (g 0, 12, .inl n_fheld)), (n_targets, .inl (g 0, 36, .inl n_ftargets)), (vs, .inr (10, [.ref vs_part, .long vsw])), (vs_part, .inl (g 1, 12, .inr (.inl vsp))), (sv_keep, .inl (g 0, 12, .inl okp_99804))]) hP hD [0, 1, 2, 3, 4, 5, 6, 7, 8, 9] [10] rfl rfl (by decide) (by decide) hk1 hFc hP1 hD1
  generalize H1 = H at hP hS ⊢
  have hP : va_P D vwCl [(pl, .inl (g 0, 12, .inl plf)), (sv, .inr (6, [.ref n, .ref co, .ref sv_keep, .ref sv_scaled])), (n, .inr (2, [.int n_nodes, .ref n_kind, .ref n_pay, .ref n_name, .ref n_ways, .ref n_held, .ref n_targets, .ref n_weights])), (n_kind, .inl (g 0, 12, .inl n_fkind)), (n_pay, .inl (g 0, 12, .inl n_fpay)), (n_ways, .inl (g 0, 12, .inl n_fways)), (n_held, .inl (g 0, 12, .inl n_fheld)), (n_targets, .inl (g 0, 36, .inl n_ftargets)), (vs, .inr (10, [.ref vs_part, .long vsw])), (vs_part, .inl (g 1, 12, .inr (.inl vsp))), (sv_keep, .inl (g 0, 12, .inl okp_99804))] H := hP
  have hD : va_D A [(pl, .inl (g 0, 12, .inl plf)), (sv, .inr (6, [.ref n, .ref co, .ref sv_keep, .ref sv_scaled])), (n, .inr (2, [.int n_nodes, .ref n_kind, .ref n_pay, .ref n_name, .ref n_ways, .ref n_held, .ref n_targets, .ref n_weights])), (n_kind, .inl (g 0, 12, .inl n_fkind)), (n_pay, .inl (g 0, 12, .inl n_fpay)), (n_ways, .inl (g 0, 12, .inl n_fways)), (n_held, .inl (g 0, 12, .inl n_fheld)), (n_targets, .inl (g 0, 36, .inl n_ftargets)), (vs, .inr (10, [.ref vs_part, .long vsw])), (vs_part, .inl (g 1, 12, .inr (.inl vsp))), (sv_keep, .inl (g 0, 12, .inl okp_99804))] := hD
  refine lv_iconst (v := 0) hx hb dX6_findBest_5 (by decide) ?_
  refine lv_istore_n (lv' := [(3, .int 0), (0, .ref sv), (1, .ref vs), (2, .ref pl)]) hx hb dX6_findBest_6 rfl hl (by decide) rfl (fun ls hl => ?_)
  have lp_100010 : ∀ (n_100010 : Nat) (x_100007 : Int32) (f_100008 : Nat → Int32) (f_100009 : Nat → Int32) (H : Heap) (locs : List Loc) (ls : Array Slot), (0 ≤ (x_100007 : Int32).toInt ∧ (x_100007 : Int32).toInt ≤ 12) → (∀ j : Nat, 0 ≤ (f_100008 j).toInt ∧ (f_100008 j).toInt ≤ 2) → (12 - x_100007.toInt < (n_100010 : Int)) → va_P D vwCl [(pl, .inl (g 0, 12, .inl f_100008)), (sv, .inr (6, [.ref n, .ref co, .ref sv_keep, .ref sv_scaled])), (n, .inr (2, [.int n_nodes, .ref n_kind, .ref n_pay, .ref n_name, .ref n_ways, .ref n_held, .ref n_targets, .ref n_weights])), (n_kind, .inl (g 0, 12, .inl n_fkind)), (n_pay, .inl (g 0, 12, .inl n_fpay)), (n_ways, .inl (g 0, 12, .inl n_fways)), (n_held, .inl (g 0, 12, .inl n_fheld)), (n_targets, .inl (g 0, 36, .inl n_ftargets)), (vs, .inr (10, [.ref vs_part, .long vsw])), (vs_part, .inl (g 1, 12, .inr (.inl vsp))), (sv_keep, .inl (g 0, 12, .inl f_100009))] H → va_D A [(pl, .inl (g 0, 12, .inl f_100008)), (sv, .inr (6, [.ref n, .ref co, .ref sv_keep, .ref sv_scaled])), (n, .inr (2, [.int n_nodes, .ref n_kind, .ref n_pay, .ref n_name, .ref n_ways, .ref n_held, .ref n_targets, .ref n_weights])), (n_kind, .inl (g 0, 12, .inl n_fkind)), (n_pay, .inl (g 0, 12, .inl n_fpay)), (n_ways, .inl (g 0, 12, .inl n_fways)), (n_held, .inl (g 0, 12, .inl n_fheld)), (n_targets, .inl (g 0, 36, .inl n_ftargets)), (vs, .inr (10, [.ref vs_part, .long vsw])), (vs_part, .inl (g 1, 12, .inr (.inl vsp))), (sv_keep, .inl (g 0, 12, .inl f_100009))] → va_S A s.heap H locs → lv_has ls 4 [(3, .int x_100007), (0, .ref sv), (1, .ref vs), (2, .ref pl)] → W p l e (headSpec (.code yX6_findBest cX6_findBest 4 none :: wsL_law) ({ frames := 4, cells := 0, slots := 0, locals := 100 })).room s m args below meth c H locs 0 0 (MQ below (va_Qv (fun (_ : Unit) => True) (fun _ t => ∃ okp : Nat → Int32, ∃ opl : Nat → Int32, (∀ j : Nat, 0 ≤ (opl j).toInt ∧ (opl j).toInt ≤ 2) ∧ va_P D vwCl [(sv, .inr (6, [.ref n, .ref co, .ref sv_keep, .ref sv_scaled])), (n, .inr (2, [.int n_nodes, .ref n_kind, .ref n_pay, .ref n_name, .ref n_ways, .ref n_held, .ref n_targets, .ref n_weights])), (n_kind, .inl (g 0, 12, .inl n_fkind)), (n_pay, .inl (g 0, 12, .inl n_fpay)), (n_ways, .inl (g 0, 12, .inl n_fways)), (n_held, .inl (g 0, 12, .inl n_fheld)), (n_targets, .inl (g 0, 36, .inl n_ftargets)), (vs, .inr (10, [.ref vs_part, .long vsw])), (vs_part, .inl (g 1, 12, .inr (.inl vsp))), (sv_keep, .inl (g 0, 12, .inl okp)), (pl, .inl (g 0, 12, .inl opl))] t.heap ∧ va_D A [(sv, .inr (6, [.ref n, .ref co, .ref sv_keep, .ref sv_scaled])), (n, .inr (2, [.int n_nodes, .ref n_kind, .ref n_pay, .ref n_name, .ref n_ways, .ref n_held, .ref n_targets, .ref n_weights])), (n_kind, .inl (g 0, 12, .inl n_fkind)), (n_pay, .inl (g 0, 12, .inl n_fpay)), (n_ways, .inl (g 0, 12, .inl n_fways)), (n_held, .inl (g 0, 12, .inl n_fheld)), (n_targets, .inl (g 0, 36, .inl n_ftargets)), (vs, .inr (10, [.ref vs_part, .long vsw])), (vs_part, .inl (g 1, 12, .inr (.inl vsp))), (sv_keep, .inl (g 0, 12, .inl okp)), (pl, .inl (g 0, 12, .inl opl))]) A) args s 0 0 A) (F0 m 7 ls []) := by
    intro n_100010
    induction n_100010 with
    | zero =>
      intro x_100007 f_100008 f_100009 H locs ls h_x_100007 h_f_100008 hm_100010 hP hD hS hl
      exfalso; omega
    | succ n_100010 ih_100010 =>
      intro x_100007 f_100008 f_100009 H locs ls h_x_100007 h_f_100008 hm_100010 hP hD hS hl
      refine lv_iload_n hx hb dX6_findBest_7 rfl (lv_at hl 0 rfl) ?_
      refine lv_aload_n hx hb dX6_findBest_8 rfl (lv_at hl 1 rfl) ?_
      refine va_get (D := D) (ci := 6) (v := .ref n) (C := RX6) (T := TX6) (N := 4) hx hb hts inlX6 hown hK hP 1 rfl rfl 0 (by decide) (hts (Cond.fieldLink RX6 19 "ChanceRings$Solver" "net" "LChanceRings$Net;") qw_548) (fun _ h9 => h9) rfl dX6_findBest_9 ?_
      refine va_get (D := D) (ci := 2) (v := .int n_nodes) (C := RX2) (T := TX2) (N := 8) hx hb hts inlX2 hown hK hP 2 rfl rfl 0 (by decide) (hts (Cond.fieldLink RX6 32 "ChanceRings$Net" "nodes" "I") qw_549) (fun _ h9 => h9) rfl dX6_findBest_12 ?_
      refine lv_icmp_ge (tgt := 88) hx hb dX6_findBest_15 (by decide) (fun c_100011 => ?_) (fun c_100011 => ?_)
      · skip
        have hP9 := hP.sub (ws' := [(sv, .inr (6, [.ref n, .ref co, .ref sv_keep, .ref sv_scaled])), (n, .inr (2, [.int n_nodes, .ref n_kind, .ref n_pay, .ref n_name, .ref n_ways, .ref n_held, .ref n_targets, .ref n_weights])), (n_kind, .inl (g 0, 12, .inl n_fkind)), (n_pay, .inl (g 0, 12, .inl n_fpay)), (n_ways, .inl (g 0, 12, .inl n_fways)), (n_held, .inl (g 0, 12, .inl n_fheld)), (n_targets, .inl (g 0, 36, .inl n_ftargets)), (vs, .inr (10, [.ref vs_part, .long vsw])), (vs_part, .inl (g 1, 12, .inr (.inl vsp))), (sv_keep, .inl (g 0, 12, .inl f_100009)), (pl, .inl (g 0, 12, .inl f_100008))]) [1, 2, 3, 4, 5, 6, 7, 8, 9, 10, 0] rfl
        have hD9 := hD.sub (ws' := [(sv, .inr (6, [.ref n, .ref co, .ref sv_keep, .ref sv_scaled])), (n, .inr (2, [.int n_nodes, .ref n_kind, .ref n_pay, .ref n_name, .ref n_ways, .ref n_held, .ref n_targets, .ref n_weights])), (n_kind, .inl (g 0, 12, .inl n_fkind)), (n_pay, .inl (g 0, 12, .inl n_fpay)), (n_ways, .inl (g 0, 12, .inl n_fways)), (n_held, .inl (g 0, 12, .inl n_fheld)), (n_targets, .inl (g 0, 36, .inl n_ftargets)), (vs, .inr (10, [.ref vs_part, .long vsw])), (vs_part, .inl (g 1, 12, .inr (.inl vsp))), (sv_keep, .inl (g 0, 12, .inl f_100009)), (pl, .inl (g 0, 12, .inl f_100008))]) [1, 2, 3, 4, 5, 6, 7, 8, 9, 10, 0] (by decide) rfl
        exact W.vret hx hb hr (fun t ht hW => ⟨⟨(), rfl, trivial, f_100009, f_100008, (tr_wa h_f_100008 (by decide) (by decide)), by rw [ht]; exact hP9, hD9⟩, hS.F ht⟩) hS.2.2 dX6_findBest_88
      · skip
        have c_100011_i := Int32.lt_iff_toInt_lt.mp (Int32.not_le.mp c_100011)
        have h_100012 : 0 ≤ (x_100007 : Int32).toInt ∧ (x_100007 : Int32).toInt ≤ 11 := by have q1 := h_x_100007; have q2 := h_n_nodes; omega
        have h_100013 : 1 ≤ (n_nodes : Int32).toInt ∧ (n_nodes : Int32).toInt ≤ 12 := by have q1 := h_x_100007; have q2 := h_n_nodes; omega
        refine lv_aload_n hx hb dX6_findBest_18 rfl (lv_at hl 1 rfl) ?_
        refine va_get (D := D) (ci := 6) (v := .ref n) (C := RX6) (T := TX6) (N := 4) hx hb hts inlX6 hown hK hP 1 rfl rfl 0 (by decide) (hts (Cond.fieldLink RX6 19 "ChanceRings$Solver" "net" "LChanceRings$Net;") qw_548) (fun _ h9 => h9) rfl dX6_findBest_19 ?_
        refine va_get (D := D) (ci := 2) (v := .ref n_kind) (C := RX2) (T := TX2) (N := 8) hx hb hts inlX2 hown hK hP 2 rfl rfl 1 (by decide) (hts (Cond.fieldLink RX6 61 "ChanceRings$Net" "kind" "[I") qw_551) (fun _ h9 => h9) rfl dX6_findBest_22 ?_
        refine lv_iload_n hx hb dX6_findBest_25 rfl (lv_at hl 0 rfl) ?_
        refine va_iald hx hb hK hP 3 0 rfl rfl (tr_in h_100012 (by decide) (by decide)) dX6_findBest_26 ?_
        refine lv_topi (fun v_100014 v_100014_e => ?_)
        have h_v_100014 : 0 ≤ (v_100014 : Int32).toInt ∧ (v_100014 : Int32).toInt ≤ 3 := by rw [v_100014_e]; exact h_n_fkind _
        refine lv_iconst (v := 2) hx hb dX6_findBest_27 (by decide) ?_
        refine lv_icmp_ne (tgt := 46) hx hb dX6_findBest_28 (by decide) (fun c_100015 => ?_) (fun c_100015 => ?_)
        · skip
          refine lv_aload_n hx hb dX6_findBest_46 rfl (lv_at hl 1 rfl) ?_
          refine va_get (D := D) (ci := 6) (v := .ref n) (C := RX6) (T := TX6) (N := 4) hx hb hts inlX6 hown hK hP 1 rfl rfl 0 (by decide) (hts (Cond.fieldLink RX6 19 "ChanceRings$Solver" "net" "LChanceRings$Net;") qw_548) (fun _ h9 => h9) rfl dX6_findBest_47 ?_
          refine va_get (D := D) (ci := 2) (v := .ref n_kind) (C := RX2) (T := TX2) (N := 8) hx hb hts inlX2 hown hK hP 2 rfl rfl 1 (by decide) (hts (Cond.fieldLink RX6 61 "ChanceRings$Net" "kind" "[I") qw_551) (fun _ h9 => h9) rfl dX6_findBest_50 ?_
          refine lv_iload_n hx hb dX6_findBest_53 rfl (lv_at hl 0 rfl) ?_
          refine va_iald hx hb hK hP 3 0 rfl rfl (tr_in h_100012 (by decide) (by decide)) dX6_findBest_54 ?_
          refine tz_i (y := v_100014) v_100014_e.symm ?_
          refine lv_iconst (v := 1) hx hb dX6_findBest_55 (by decide) ?_
          refine lv_icmp_ne (tgt := 82) hx hb dX6_findBest_56 (by decide) (fun c_100017 => ?_) (fun c_100017 => ?_)
          · skip
            obtain ⟨v_100019, v_100019_e⟩ : ∃ y : Int32, y = x_100007 + Int32.ofInt 1 := ⟨_, rfl⟩
            have h_v_100019 : 1 ≤ (v_100019 : Int32).toInt ∧ (v_100019 : Int32).toInt ≤ 12 := by rw [v_100019_e]; exact tr_add h_100012 (⟨by decide, by decide⟩ : 1 ≤ (Int32.ofInt 1 : Int32).toInt ∧ (Int32.ofInt 1 : Int32).toInt ≤ 1) (by decide) (by decide) (by decide) (by decide)
            have q_v_100019 : v_100019.toInt = x_100007.toInt + 1 := by rw [v_100019_e]; exact tr_addE h_100012 (⟨by decide, by decide⟩ : 1 ≤ (Int32.ofInt 1 : Int32).toInt ∧ (Int32.ofInt 1 : Int32).toInt ≤ 1) (by decide) (by decide)
            refine lv_iinc (v := v_100019) (lv' := [(3, .int v_100019), (0, .ref sv), (1, .ref vs), (2, .ref pl)]) hx hb dX6_findBest_82 hl (k := 0) rfl v_100019_e.symm (by decide) rfl (fun ls hl => ?_)
            refine lv_goto (tgt := 7) hx hb dX6_findBest_85 (by decide) ?_
            exact ih_100010 v_100019 f_100008 f_100009 H _ ls (tr_w h_v_100019 (by decide) (by decide)) (tr_wa h_f_100008 (by decide) (by decide)) (by omega) (hP.sub [0, 1, 2, 3, 4, 5, 6, 7, 8, 9, 10] rfl) (hD.sub [0, 1, 2, 3, 4, 5, 6, 7, 8, 9, 10] (by decide) rfl) hS (lv_sub hl [0, 1, 2, 3] rfl)
          · skip
            have c_100017_i := c_100017
            have c_100017_i : (v_100014 : Int32).toInt = (1 : Int32).toInt := congrArg Int32.toInt c_100017
            have h_100018 : 1 ≤ (v_100014 : Int32).toInt ∧ (v_100014 : Int32).toInt ≤ 1 := by have q1 := h_v_100014; have q2 := (⟨by decide, by decide⟩ : 1 ≤ (1 : Int32).toInt ∧ (1 : Int32).toInt ≤ 1); omega
            refine lv_aload_n hx hb dX6_findBest_59 rfl (lv_at hl 3 rfl) ?_
            refine lv_iload_n hx hb dX6_findBest_60 rfl (lv_at hl 0 rfl) ?_
            refine lv_aload_n hx hb dX6_findBest_61 rfl (lv_at hl 1 rfl) ?_
            refine lv_iload_n hx hb dX6_findBest_62 rfl (lv_at hl 0 rfl) ?_
            refine lv_aload_n hx hb dX6_findBest_63 rfl (lv_at hl 2 rfl) ?_
            have hPc := hP.sub (ws' := [(sv, .inr (6, [.ref n, .ref co, .ref sv_keep, .ref sv_scaled])), (n, .inr (2, [.int n_nodes, .ref n_kind, .ref n_pay, .ref n_name, .ref n_ways, .ref n_held, .ref n_targets, .ref n_weights])), (n_kind, .inl (g 0, 12, .inl n_fkind)), (n_pay, .inl (g 0, 12, .inl n_fpay)), (n_ways, .inl (g 0, 12, .inl n_fways)), (n_held, .inl (g 0, 12, .inl n_fheld)), (n_targets, .inl (g 0, 36, .inl n_ftargets)), (vs, .inr (10, [.ref vs_part, .long vsw])), (vs_part, .inl (g 1, 12, .inr (.inl vsp))), (sv_keep, .inl (g 0, 12, .inl f_100009))]) [1, 2, 3, 4, 5, 6, 7, 8, 9, 10] rfl
            have hDc := hD.sub (ws' := [(sv, .inr (6, [.ref n, .ref co, .ref sv_keep, .ref sv_scaled])), (n, .inr (2, [.int n_nodes, .ref n_kind, .ref n_pay, .ref n_name, .ref n_ways, .ref n_held, .ref n_targets, .ref n_weights])), (n_kind, .inl (g 0, 12, .inl n_fkind)), (n_pay, .inl (g 0, 12, .inl n_fpay)), (n_ways, .inl (g 0, 12, .inl n_fways)), (n_held, .inl (g 0, 12, .inl n_fheld)), (n_targets, .inl (g 0, 36, .inl n_ftargets)), (vs, .inr (10, [.ref vs_part, .long vsw])), (vs_part, .inl (g 1, 12, .inr (.inl vsp))), (sv_keep, .inl (g 0, 12, .inl f_100009))]) [1, 2, 3, 4, 5, 6, 7, 8, 9, 10] (by decide) rfl
            have hFc := va_free (wc := [(sv, .inr (6, [.ref n, .ref co, .ref sv_keep, .ref sv_scaled])), (n, .inr (2, [.int n_nodes, .ref n_kind, .ref n_pay, .ref n_name, .ref n_ways, .ref n_held, .ref n_targets, .ref n_weights])), (n_kind, .inl (g 0, 12, .inl n_fkind)), (n_pay, .inl (g 0, 12, .inl n_fpay)), (n_ways, .inl (g 0, 12, .inl n_fways)), (n_held, .inl (g 0, 12, .inl n_fheld)), (n_targets, .inl (g 0, 36, .inl n_ftargets)), (vs, .inr (10, [.ref vs_part, .long vsw])), (vs_part, .inl (g 1, 12, .inr (.inl vsp))), (sv_keep, .inl (g 0, 12, .inl f_100009))]) hD hS hA [1, 2, 3, 4, 5, 6, 7, 8, 9, 10] rfl
            refine va_calli (va_runV (As := [.int x_100007, .ref vs]) (rest := [.int x_100007, .ref pl]) ⟨hx, hb, hml, hown, hts⟩ (c_X6_goodOf l D g H.size sv x_100007 vs n co sv_keep sv_scaled n_nodes n_kind n_pay n_name n_ways n_held n_targets n_weights n_fkind n_fpay n_fways n_fheld n_ftargets vs_part vsw vsp f_100009 (tr_w h_100012 (by decide) (by decide)) (tr_w h_100013 (by decide) (by decide)) (tr_wa h_n_fkind (by decide) (by decide)) (tr_wa h_n_fways (by decide) (by decide)) (tr_wa h_n_fheld (by decide) (by decide)) (tr_wa h_n_ftargets (by decide) (by decide))) (cwV 2 hts (tz_gV qw_601 qw_602 qw_603 qw_558 qw_604) rfl rfl rfl (by decide +kernel) ⟨Nat.le_of_ble_eq_true rfl, Nat.le_of_ble_eq_true rfl⟩) ⟨tz_blQ, va_recv hK hPc (ci := 6) (q0 := 0) rfl rfl, tz_preQ hPc hK hDc⟩ rfl rfl hl.1 rfl (lv_room (Nat.le_of_ble_eq_true rfl)) dX6_findBest_64 ⟨Nat.le_of_ble_eq_true rfl, Nat.le_of_ble_eq_true rfl⟩) hS (fun q _ h => hFc q h) hFc (fun r_100020 u t H1 locs ht hvm hw hB hz1 hk1 hS => ?_)
            obtain ⟨okp_100021, hP1, hD1⟩ := hB
            rw [ht] at hP1
            obtain ⟨hP, hD⟩ := va_join (wr := [(pl, .inl (g 0, 12, .inl f_100008))]) (w1 := [(sv, .inr (6, [.ref n, .ref co, .ref sv_keep, .ref sv_scaled])), (n, .inr (2, [.int n_nodes, .ref n_kind, .ref n_pay, .ref n_name, .ref n_ways, .ref n_held, .ref n_targets, .ref n_weights])), (n_kind, .inl (g 0, 12, .inl n_fkind)), (n_pay, .inl (g 0, 12, .inl n_fpay)), (n_ways, .inl (g 0, 12, .inl n_fways)), (n_held, .inl (g 0, 12, .inl n_fheld)), (n_targets, .inl (g 0, 36, .inl n_ftargets)), (vs, .inr (10, [.ref vs_part, .long vsw])), (vs_part, .inl (g 1, 12, .inr (.inl vsp))), (sv_keep, .inl (g 0, 12, .inl okp_100021))]) hP hD [1, 2, 3, 4, 5, 6, 7, 8, 9, 10] [0] rfl rfl (by decide) (by decide) hk1 hFc hP1 hD1
            generalize H1 = H at hP hS ⊢
            have hP : va_P D vwCl [(pl, .inl (g 0, 12, .inl f_100008)), (sv, .inr (6, [.ref n, .ref co, .ref sv_keep, .ref sv_scaled])), (n, .inr (2, [.int n_nodes, .ref n_kind, .ref n_pay, .ref n_name, .ref n_ways, .ref n_held, .ref n_targets, .ref n_weights])), (n_kind, .inl (g 0, 12, .inl n_fkind)), (n_pay, .inl (g 0, 12, .inl n_fpay)), (n_ways, .inl (g 0, 12, .inl n_fways)), (n_held, .inl (g 0, 12, .inl n_fheld)), (n_targets, .inl (g 0, 36, .inl n_ftargets)), (vs, .inr (10, [.ref vs_part, .long vsw])), (vs_part, .inl (g 1, 12, .inr (.inl vsp))), (sv_keep, .inl (g 0, 12, .inl okp_100021))] H := hP
            have hD : va_D A [(pl, .inl (g 0, 12, .inl f_100008)), (sv, .inr (6, [.ref n, .ref co, .ref sv_keep, .ref sv_scaled])), (n, .inr (2, [.int n_nodes, .ref n_kind, .ref n_pay, .ref n_name, .ref n_ways, .ref n_held, .ref n_targets, .ref n_weights])), (n_kind, .inl (g 0, 12, .inl n_fkind)), (n_pay, .inl (g 0, 12, .inl n_fpay)), (n_ways, .inl (g 0, 12, .inl n_fways)), (n_held, .inl (g 0, 12, .inl n_fheld)), (n_targets, .inl (g 0, 36, .inl n_ftargets)), (vs, .inr (10, [.ref vs_part, .long vsw])), (vs_part, .inl (g 1, 12, .inr (.inl vsp))), (sv_keep, .inl (g 0, 12, .inl okp_100021))] := hD
            have hPc := hP.sub (ws' := []) [] rfl
            refine vp_callSi (va_Run.run (va_runS (As := [.int r_100020]) (rest := [.int x_100007, .ref pl]) ⟨hx, hb, hml, hown, hts⟩ (c_X6_lowest l D g r_100020) (va_cwS 1 hts (tz_gS qw_605 qw_606 qw_558 qw_607) rfl rfl rfl (by decide +kernel) ⟨Nat.le_of_ble_eq_true rfl, Nat.le_of_ble_eq_true rfl⟩) ⟨tz_blS, tz_preS hPc hK⟩ rfl rfl hl.1 rfl (lv_room (Nat.le_of_ble_eq_true rfl)) dX6_findBest_67 ⟨Nat.le_of_ble_eq_true rfl, Nat.le_of_ble_eq_true rfl⟩)) (fun r_100022 hw => ?_)
            have hw_100023 : 0 ≤ (r_100022 : Int32).toInt ∧ (r_100022 : Int32).toInt ≤ 2 := hw
            refine va_iast hx hb hK hP hD hS 0 0 rfl rfl (tr_in h_100012 (by decide) (by decide)) dX6_findBest_70 (fun H locs hP hD hS => ?_)
            obtain ⟨f_100024, h_f_100024, hP, hD⟩ : ∃ FX : Nat → Int32, (∀ j : Nat, 0 ≤ (FX j).toInt ∧ (FX j).toInt ≤ 2) ∧ va_P D vwCl [(pl, .inl (g 0, 12, .inl FX)), (sv, .inr (6, [.ref n, .ref co, .ref sv_keep, .ref sv_scaled])), (n, .inr (2, [.int n_nodes, .ref n_kind, .ref n_pay, .ref n_name, .ref n_ways, .ref n_held, .ref n_targets, .ref n_weights])), (n_kind, .inl (g 0, 12, .inl n_fkind)), (n_pay, .inl (g 0, 12, .inl n_fpay)), (n_ways, .inl (g 0, 12, .inl n_fways)), (n_held, .inl (g 0, 12, .inl n_fheld)), (n_targets, .inl (g 0, 36, .inl n_ftargets)), (vs, .inr (10, [.ref vs_part, .long vsw])), (vs_part, .inl (g 1, 12, .inr (.inl vsp))), (sv_keep, .inl (g 0, 12, .inl okp_100021))] H ∧ va_D A [(pl, .inl (g 0, 12, .inl FX)), (sv, .inr (6, [.ref n, .ref co, .ref sv_keep, .ref sv_scaled])), (n, .inr (2, [.int n_nodes, .ref n_kind, .ref n_pay, .ref n_name, .ref n_ways, .ref n_held, .ref n_targets, .ref n_weights])), (n_kind, .inl (g 0, 12, .inl n_fkind)), (n_pay, .inl (g 0, 12, .inl n_fpay)), (n_ways, .inl (g 0, 12, .inl n_fways)), (n_held, .inl (g 0, 12, .inl n_fheld)), (n_targets, .inl (g 0, 36, .inl n_ftargets)), (vs, .inr (10, [.ref vs_part, .long vsw])), (vs_part, .inl (g 1, 12, .inr (.inl vsp))), (sv_keep, .inl (g 0, 12, .inl okp_100021))] := ⟨_, tr_upd h_f_100008 (tr_w hw_100023 (by decide) (by decide)), hP, hD⟩
            have hP : va_P D vwCl [(pl, .inl (g 0, 12, .inl f_100024)), (sv, .inr (6, [.ref n, .ref co, .ref sv_keep, .ref sv_scaled])), (n, .inr (2, [.int n_nodes, .ref n_kind, .ref n_pay, .ref n_name, .ref n_ways, .ref n_held, .ref n_targets, .ref n_weights])), (n_kind, .inl (g 0, 12, .inl n_fkind)), (n_pay, .inl (g 0, 12, .inl n_fpay)), (n_ways, .inl (g 0, 12, .inl n_fways)), (n_held, .inl (g 0, 12, .inl n_fheld)), (n_targets, .inl (g 0, 36, .inl n_ftargets)), (vs, .inr (10, [.ref vs_part, .long vsw])), (vs_part, .inl (g 1, 12, .inr (.inl vsp))), (sv_keep, .inl (g 0, 12, .inl okp_100021))] H := hP
            have hD : va_D A [(pl, .inl (g 0, 12, .inl f_100024)), (sv, .inr (6, [.ref n, .ref co, .ref sv_keep, .ref sv_scaled])), (n, .inr (2, [.int n_nodes, .ref n_kind, .ref n_pay, .ref n_name, .ref n_ways, .ref n_held, .ref n_targets, .ref n_weights])), (n_kind, .inl (g 0, 12, .inl n_fkind)), (n_pay, .inl (g 0, 12, .inl n_fpay)), (n_ways, .inl (g 0, 12, .inl n_fways)), (n_held, .inl (g 0, 12, .inl n_fheld)), (n_targets, .inl (g 0, 36, .inl n_ftargets)), (vs, .inr (10, [.ref vs_part, .long vsw])), (vs_part, .inl (g 1, 12, .inr (.inl vsp))), (sv_keep, .inl (g 0, 12, .inl okp_100021))] := hD
            refine lv_aload_n hx hb dX6_findBest_71 rfl (lv_at hl 1 rfl) ?_
            refine va_get (D := D) (ci := 6) (v := .ref sv_keep) (C := RX6) (T := TX6) (N := 4) hx hb hts inlX6 hown hK hP 1 rfl rfl 2 (by decide) (hts (Cond.fieldLink RX6 9 "ChanceRings$Solver" "keep" "[I") qw_587) (fun _ h9 => h9) rfl dX6_findBest_72 ?_
            refine lv_iload_n hx hb dX6_findBest_75 rfl (lv_at hl 0 rfl) ?_
            refine lv_iconst (v := 1) hx hb dX6_findBest_76 (by decide) ?_
            refine lv_aload_n hx hb dX6_findBest_77 rfl (lv_at hl 3 rfl) ?_
            refine lv_iload_n hx hb dX6_findBest_78 rfl (lv_at hl 0 rfl) ?_
            refine va_iald hx hb hK hP 0 0 rfl rfl (tr_in h_100012 (by decide) (by decide)) dX6_findBest_79 ?_
            refine lv_topi (fun v_100025 v_100025_e => ?_)
            have h_v_100025 : 0 ≤ (v_100025 : Int32).toInt ∧ (v_100025 : Int32).toInt ≤ 2 := by rw [v_100025_e]; exact h_f_100024 _
            refine lv_ishl hx hb dX6_findBest_80 ?_
            refine lv_topi (fun v_100026 v_100026_e => ?_)
            refine va_iast hx hb hK hP hD hS 10 0 rfl rfl (tr_in h_100012 (by decide) (by decide)) dX6_findBest_81 (fun H locs hP hD hS => ?_)
            obtain ⟨f_100027, hP, hD⟩ : ∃ FX : Nat → Int32, va_P D vwCl [(pl, .inl (g 0, 12, .inl f_100024)), (sv, .inr (6, [.ref n, .ref co, .ref sv_keep, .ref sv_scaled])), (n, .inr (2, [.int n_nodes, .ref n_kind, .ref n_pay, .ref n_name, .ref n_ways, .ref n_held, .ref n_targets, .ref n_weights])), (n_kind, .inl (g 0, 12, .inl n_fkind)), (n_pay, .inl (g 0, 12, .inl n_fpay)), (n_ways, .inl (g 0, 12, .inl n_fways)), (n_held, .inl (g 0, 12, .inl n_fheld)), (n_targets, .inl (g 0, 36, .inl n_ftargets)), (vs, .inr (10, [.ref vs_part, .long vsw])), (vs_part, .inl (g 1, 12, .inr (.inl vsp))), (sv_keep, .inl (g 0, 12, .inl FX))] H ∧ va_D A [(pl, .inl (g 0, 12, .inl f_100024)), (sv, .inr (6, [.ref n, .ref co, .ref sv_keep, .ref sv_scaled])), (n, .inr (2, [.int n_nodes, .ref n_kind, .ref n_pay, .ref n_name, .ref n_ways, .ref n_held, .ref n_targets, .ref n_weights])), (n_kind, .inl (g 0, 12, .inl n_fkind)), (n_pay, .inl (g 0, 12, .inl n_fpay)), (n_ways, .inl (g 0, 12, .inl n_fways)), (n_held, .inl (g 0, 12, .inl n_fheld)), (n_targets, .inl (g 0, 36, .inl n_ftargets)), (vs, .inr (10, [.ref vs_part, .long vsw])), (vs_part, .inl (g 1, 12, .inr (.inl vsp))), (sv_keep, .inl (g 0, 12, .inl FX))] := ⟨_, hP, hD⟩
            have hP : va_P D vwCl [(pl, .inl (g 0, 12, .inl f_100024)), (sv, .inr (6, [.ref n, .ref co, .ref sv_keep, .ref sv_scaled])), (n, .inr (2, [.int n_nodes, .ref n_kind, .ref n_pay, .ref n_name, .ref n_ways, .ref n_held, .ref n_targets, .ref n_weights])), (n_kind, .inl (g 0, 12, .inl n_fkind)), (n_pay, .inl (g 0, 12, .inl n_fpay)), (n_ways, .inl (g 0, 12, .inl n_fways)), (n_held, .inl (g 0, 12, .inl n_fheld)), (n_targets, .inl (g 0, 36, .inl n_ftargets)), (vs, .inr (10, [.ref vs_part, .long vsw])), (vs_part, .inl (g 1, 12, .inr (.inl vsp))), (sv_keep, .inl (g 0, 12, .inl f_100027))] H := hP
            have hD : va_D A [(pl, .inl (g 0, 12, .inl f_100024)), (sv, .inr (6, [.ref n, .ref co, .ref sv_keep, .ref sv_scaled])), (n, .inr (2, [.int n_nodes, .ref n_kind, .ref n_pay, .ref n_name, .ref n_ways, .ref n_held, .ref n_targets, .ref n_weights])), (n_kind, .inl (g 0, 12, .inl n_fkind)), (n_pay, .inl (g 0, 12, .inl n_fpay)), (n_ways, .inl (g 0, 12, .inl n_fways)), (n_held, .inl (g 0, 12, .inl n_fheld)), (n_targets, .inl (g 0, 36, .inl n_ftargets)), (vs, .inr (10, [.ref vs_part, .long vsw])), (vs_part, .inl (g 1, 12, .inr (.inl vsp))), (sv_keep, .inl (g 0, 12, .inl f_100027))] := hD
            obtain ⟨v_100028, v_100028_e⟩ : ∃ y : Int32, y = x_100007 + Int32.ofInt 1 := ⟨_, rfl⟩
            have h_v_100028 : 1 ≤ (v_100028 : Int32).toInt ∧ (v_100028 : Int32).toInt ≤ 12 := by rw [v_100028_e]; exact tr_add h_100012 (⟨by decide, by decide⟩ : 1 ≤ (Int32.ofInt 1 : Int32).toInt ∧ (Int32.ofInt 1 : Int32).toInt ≤ 1) (by decide) (by decide) (by decide) (by decide)
            have q_v_100028 : v_100028.toInt = x_100007.toInt + 1 := by rw [v_100028_e]; exact tr_addE h_100012 (⟨by decide, by decide⟩ : 1 ≤ (Int32.ofInt 1 : Int32).toInt ∧ (Int32.ofInt 1 : Int32).toInt ≤ 1) (by decide) (by decide)
            refine lv_iinc (v := v_100028) (lv' := [(3, .int v_100028), (0, .ref sv), (1, .ref vs), (2, .ref pl)]) hx hb dX6_findBest_82 hl (k := 0) rfl v_100028_e.symm (by decide) rfl (fun ls hl => ?_)
            refine lv_goto (tgt := 7) hx hb dX6_findBest_85 (by decide) ?_
            exact ih_100010 v_100028 f_100024 f_100027 H _ ls (tr_w h_v_100028 (by decide) (by decide)) (tr_wa h_f_100024 (by decide) (by decide)) (by omega) (hP.sub [0, 1, 2, 3, 4, 5, 6, 7, 8, 9, 10] rfl) (hD.sub [0, 1, 2, 3, 4, 5, 6, 7, 8, 9, 10] (by decide) rfl) hS (lv_sub hl [0, 1, 2, 3] rfl)
        · skip
          have c_100015_i := c_100015
          have c_100015_i : (v_100014 : Int32).toInt = (2 : Int32).toInt := congrArg Int32.toInt c_100015
          have h_100016 : 2 ≤ (v_100014 : Int32).toInt ∧ (v_100014 : Int32).toInt ≤ 2 := by have q1 := h_v_100014; have q2 := (⟨by decide, by decide⟩ : 2 ≤ (2 : Int32).toInt ∧ (2 : Int32).toInt ≤ 2); omega
          refine lv_aload_n hx hb dX6_findBest_31 rfl (lv_at hl 3 rfl) ?_
          refine lv_iload_n hx hb dX6_findBest_32 rfl (lv_at hl 0 rfl) ?_
          refine lv_aload_n hx hb dX6_findBest_33 rfl (lv_at hl 1 rfl) ?_
          refine va_get (D := D) (ci := 6) (v := .ref sv_keep) (C := RX6) (T := TX6) (N := 4) hx hb hts inlX6 hown hK hP 1 rfl rfl 2 (by decide) (hts (Cond.fieldLink RX6 9 "ChanceRings$Solver" "keep" "[I") qw_587) (fun _ h9 => h9) rfl dX6_findBest_34 ?_
          refine lv_iload_n hx hb dX6_findBest_37 rfl (lv_at hl 0 rfl) ?_
          refine va_iald hx hb hK hP 10 0 rfl rfl (tr_in h_100012 (by decide) (by decide)) dX6_findBest_38 ?_
          refine lv_topi (fun v_100029 v_100029_e => ?_)
          have hPc := hP.sub (ws' := []) [] rfl
          refine vp_callSi (va_Run.run (va_runS (As := [.int v_100029]) (rest := [.int x_100007, .ref pl]) ⟨hx, hb, hml, hown, hts⟩ (c_X6_lowest l D g v_100029) (va_cwS 1 hts (tz_gS qw_605 qw_606 qw_558 qw_607) rfl rfl rfl (by decide +kernel) ⟨Nat.le_of_ble_eq_true rfl, Nat.le_of_ble_eq_true rfl⟩) ⟨tz_blS, tz_preS hPc hK⟩ rfl rfl hl.1 rfl (lv_room (Nat.le_of_ble_eq_true rfl)) dX6_findBest_39 ⟨Nat.le_of_ble_eq_true rfl, Nat.le_of_ble_eq_true rfl⟩)) (fun r_100030 hw => ?_)
          have hw_100031 : 0 ≤ (r_100030 : Int32).toInt ∧ (r_100030 : Int32).toInt ≤ 2 := hw
          refine va_iast hx hb hK hP hD hS 0 0 rfl rfl (tr_in h_100012 (by decide) (by decide)) dX6_findBest_42 (fun H locs hP hD hS => ?_)
          obtain ⟨f_100032, h_f_100032, hP, hD⟩ : ∃ FX : Nat → Int32, (∀ j : Nat, 0 ≤ (FX j).toInt ∧ (FX j).toInt ≤ 2) ∧ va_P D vwCl [(pl, .inl (g 0, 12, .inl FX)), (sv, .inr (6, [.ref n, .ref co, .ref sv_keep, .ref sv_scaled])), (n, .inr (2, [.int n_nodes, .ref n_kind, .ref n_pay, .ref n_name, .ref n_ways, .ref n_held, .ref n_targets, .ref n_weights])), (n_kind, .inl (g 0, 12, .inl n_fkind)), (n_pay, .inl (g 0, 12, .inl n_fpay)), (n_ways, .inl (g 0, 12, .inl n_fways)), (n_held, .inl (g 0, 12, .inl n_fheld)), (n_targets, .inl (g 0, 36, .inl n_ftargets)), (vs, .inr (10, [.ref vs_part, .long vsw])), (vs_part, .inl (g 1, 12, .inr (.inl vsp))), (sv_keep, .inl (g 0, 12, .inl f_100009))] H ∧ va_D A [(pl, .inl (g 0, 12, .inl FX)), (sv, .inr (6, [.ref n, .ref co, .ref sv_keep, .ref sv_scaled])), (n, .inr (2, [.int n_nodes, .ref n_kind, .ref n_pay, .ref n_name, .ref n_ways, .ref n_held, .ref n_targets, .ref n_weights])), (n_kind, .inl (g 0, 12, .inl n_fkind)), (n_pay, .inl (g 0, 12, .inl n_fpay)), (n_ways, .inl (g 0, 12, .inl n_fways)), (n_held, .inl (g 0, 12, .inl n_fheld)), (n_targets, .inl (g 0, 36, .inl n_ftargets)), (vs, .inr (10, [.ref vs_part, .long vsw])), (vs_part, .inl (g 1, 12, .inr (.inl vsp))), (sv_keep, .inl (g 0, 12, .inl f_100009))] := ⟨_, tr_upd h_f_100008 (tr_w hw_100031 (by decide) (by decide)), hP, hD⟩
          have hP : va_P D vwCl [(pl, .inl (g 0, 12, .inl f_100032)), (sv, .inr (6, [.ref n, .ref co, .ref sv_keep, .ref sv_scaled])), (n, .inr (2, [.int n_nodes, .ref n_kind, .ref n_pay, .ref n_name, .ref n_ways, .ref n_held, .ref n_targets, .ref n_weights])), (n_kind, .inl (g 0, 12, .inl n_fkind)), (n_pay, .inl (g 0, 12, .inl n_fpay)), (n_ways, .inl (g 0, 12, .inl n_fways)), (n_held, .inl (g 0, 12, .inl n_fheld)), (n_targets, .inl (g 0, 36, .inl n_ftargets)), (vs, .inr (10, [.ref vs_part, .long vsw])), (vs_part, .inl (g 1, 12, .inr (.inl vsp))), (sv_keep, .inl (g 0, 12, .inl f_100009))] H := hP
          have hD : va_D A [(pl, .inl (g 0, 12, .inl f_100032)), (sv, .inr (6, [.ref n, .ref co, .ref sv_keep, .ref sv_scaled])), (n, .inr (2, [.int n_nodes, .ref n_kind, .ref n_pay, .ref n_name, .ref n_ways, .ref n_held, .ref n_targets, .ref n_weights])), (n_kind, .inl (g 0, 12, .inl n_fkind)), (n_pay, .inl (g 0, 12, .inl n_fpay)), (n_ways, .inl (g 0, 12, .inl n_fways)), (n_held, .inl (g 0, 12, .inl n_fheld)), (n_targets, .inl (g 0, 36, .inl n_ftargets)), (vs, .inr (10, [.ref vs_part, .long vsw])), (vs_part, .inl (g 1, 12, .inr (.inl vsp))), (sv_keep, .inl (g 0, 12, .inl f_100009))] := hD
          refine lv_goto (tgt := 82) hx hb dX6_findBest_43 (by decide) ?_
          obtain ⟨v_100033, v_100033_e⟩ : ∃ y : Int32, y = x_100007 + Int32.ofInt 1 := ⟨_, rfl⟩
          have h_v_100033 : 1 ≤ (v_100033 : Int32).toInt ∧ (v_100033 : Int32).toInt ≤ 12 := by rw [v_100033_e]; exact tr_add h_100012 (⟨by decide, by decide⟩ : 1 ≤ (Int32.ofInt 1 : Int32).toInt ∧ (Int32.ofInt 1 : Int32).toInt ≤ 1) (by decide) (by decide) (by decide) (by decide)
          have q_v_100033 : v_100033.toInt = x_100007.toInt + 1 := by rw [v_100033_e]; exact tr_addE h_100012 (⟨by decide, by decide⟩ : 1 ≤ (Int32.ofInt 1 : Int32).toInt ∧ (Int32.ofInt 1 : Int32).toInt ≤ 1) (by decide) (by decide)
          refine lv_iinc (v := v_100033) (lv' := [(3, .int v_100033), (0, .ref sv), (1, .ref vs), (2, .ref pl)]) hx hb dX6_findBest_82 hl (k := 0) rfl v_100033_e.symm (by decide) rfl (fun ls hl => ?_)
          refine lv_goto (tgt := 7) hx hb dX6_findBest_85 (by decide) ?_
          exact ih_100010 v_100033 f_100032 f_100009 H _ ls (tr_w h_v_100033 (by decide) (by decide)) (tr_wa h_f_100032 (by decide) (by decide)) (by omega) (hP.sub [0, 1, 2, 3, 4, 5, 6, 7, 8, 9, 10] rfl) (hD.sub [0, 1, 2, 3, 4, 5, 6, 7, 8, 9, 10] (by decide) rfl) hS (lv_sub hl [0, 1, 2, 3] rfl)
  exact lp_100010 13 0 plf okp_99804 H _ ls (⟨by decide, by decide⟩ : 0 ≤ (0 : Int32).toInt ∧ (0 : Int32).toInt ≤ 12) (tr_wa h_plf (by decide) (by decide)) (by decide) (hP.sub [0, 1, 2, 3, 4, 5, 6, 7, 8, 9, 10] rfl) (hD.sub [0, 1, 2, 3, 4, 5, 6, 7, 8, 9, 10] (by decide) rfl) hS (lv_sub hl [0, 1, 2, 3] rfl)
set_option maxHeartbeats 4000000 in
set_option maxRecDepth 100000 in
theorem c_X6_oneMoveMore (l : Launch) (D : va_G) (g : Nat → ClassId) (sv : Nat) (p0 : Int32) (vs : Nat) (n : Nat) (co : Nat) (sv_keep : Nat) (sv_scaled : Nat) (n_nodes : Int32) (n_kind : Nat) (n_pay : Nat) (n_name : Nat) (n_ways : Nat) (n_held : Nat) (n_targets : Nat) (n_weights : Nat) (n_fkind : Nat → Int32) (n_fways : Nat → Int32) (n_fheld : Nat → Int32) (n_ftargets : Nat → Int32) (n_fweights : Nat → Int32) (vs_part : Nat) (vsw : Int64) (vsp : Nat → Int64) (h_p0 : 0 ≤ (p0 : Int32).toInt ∧ (p0 : Int32).toInt ≤ 11) (h_n_nodes : 0 ≤ (n_nodes : Int32).toInt ∧ (n_nodes : Int32).toInt ≤ 12) (h_n_fkind : ∀ j : Nat, 0 ≤ (n_fkind j).toInt ∧ (n_fkind j).toInt ≤ 3) (h_n_fways : ∀ j : Nat, 0 ≤ (n_fways j).toInt ∧ (n_fways j).toInt ≤ 3) (h_n_fheld : ∀ j : Nat, (-1) ≤ (n_fheld j).toInt ∧ (n_fheld j).toInt ≤ 2) (h_n_ftargets : ∀ j : Nat, 0 ≤ (n_ftargets j).toInt ∧ (n_ftargets j).toInt ≤ 11) : Met l yX6_oneMoveMore (.code yX6_oneMoveMore cX6_oneMoveMore 6 (some .long) :: wsL_law) ({ frames := 2, cells := 0, slots := 0, locals := 50 }) (va_Pc [.ref sv, .int p0, .ref vs] (fun U => va_P D vwCl [(sv, .inr (6, [.ref n, .ref co, .ref sv_keep, .ref sv_scaled])), (n, .inr (2, [.int n_nodes, .ref n_kind, .ref n_pay, .ref n_name, .ref n_ways, .ref n_held, .ref n_targets, .ref n_weights])), (n_kind, .inl (g 0, 12, .inl n_fkind)), (n_ways, .inl (g 0, 12, .inl n_fways)), (n_held, .inl (g 0, 12, .inl n_fheld)), (n_targets, .inl (g 0, 36, .inl n_ftargets)), (n_weights, .inl (g 0, 36, .inl n_fweights)), (vs, .inr (10, [.ref vs_part, .long vsw])), (vs_part, .inl (g 1, 12, .inr (.inl vsp)))] U.heap ∧ va_K D vwCl (TY g) U)) (vp_Sl (fun r => True)) 0 0 (fun _ => False) := by
  refine Met.ofW (cc := cX6_oneMoveMore) (maxL := 6) (ret := (some .long)) (by decide) rfl ?_
  intro p e s m args below meth c s₁ B hml hv
  obtain ⟨ha, hP, hK⟩ := hv
  have hx := B.exec
  have hb := B.bytes
  have hr := B.returns
  have hts0 := atoms_spec (ws := (.code yX6_oneMoveMore cX6_oneMoveMore 6 (some .long) :: wsL_law)) B.pre
  have hts : ∀ w ∈ wsL_law, w.before args s = true := fun w h => hts0 w (List.mem_cons_of_mem _ h)
  have hown : s.vm.findClass RX6 = some m.cls := findClass_of_methodNamed B.named
  have hlocks := B.notSynchronized
  have hP : va_P D vwCl [(sv, .inr (6, [.ref n, .ref co, .ref sv_keep, .ref sv_scaled])), (n, .inr (2, [.int n_nodes, .ref n_kind, .ref n_pay, .ref n_name, .ref n_ways, .ref n_held, .ref n_targets, .ref n_weights])), (n_kind, .inl (g 0, 12, .inl n_fkind)), (n_ways, .inl (g 0, 12, .inl n_fways)), (n_held, .inl (g 0, 12, .inl n_fheld)), (n_targets, .inl (g 0, 36, .inl n_ftargets)), (n_weights, .inl (g 0, 36, .inl n_fweights)), (vs, .inr (10, [.ref vs_part, .long vsw])), (vs_part, .inl (g 1, 12, .inr (.inl vsp)))] s.heap := hP
  refine W.eq (g2 := entryFrame m ([.ref sv, .int p0, .ref vs] : List Value).toArray 6) (by rw [ha]) ?_
  have hl := lv_entry ([.ref sv, .int p0, .ref vs]) (n := 6) (Nat.le_of_ble_eq_true rfl)
  rw [lg_entry_eq]
  generalize (lg_sl ([.ref sv, .int p0, .ref vs]) ++ List.replicate (6 - (lg_sl ([.ref sv, .int p0, .ref vs])).length) Slot.unset).toArray = ls at hl ⊢
  have hl : lv_has ls 6 [(0, .ref sv), (1, .int p0), (2, .ref vs)] := hl
  refine lv_aload_n hx hb dX6_oneMoveMore_0 rfl (lv_at hl 0 rfl) ?_
  refine va_get (D := D) (ci := 6) (v := .ref n) (C := RX6) (T := TX6) (N := 4) hx hb hts inlX6 hown hK hP 0 rfl rfl 0 (by decide) (hts (Cond.fieldLink RX6 19 "ChanceRings$Solver" "net" "LChanceRings$Net;") qw_548) (fun _ h9 => h9) rfl dX6_oneMoveMore_1 ?_
  refine va_get (D := D) (ci := 2) (v := .ref n_kind) (C := RX2) (T := TX2) (N := 8) hx hb hts inlX2 hown hK hP 1 rfl rfl 1 (by decide) (hts (Cond.fieldLink RX6 61 "ChanceRings$Net" "kind" "[I") qw_551) (fun _ h9 => h9) rfl dX6_oneMoveMore_4 ?_
  refine lv_iload_n hx hb dX6_oneMoveMore_7 rfl (lv_at hl 1 rfl) ?_
  refine va_iald hx hb hK hP 2 0 rfl rfl (tr_in h_p0 (by decide) (by decide)) dX6_oneMoveMore_8 ?_
  refine lv_topi (fun v_100034 v_100034_e => ?_)
  have h_v_100034 : 0 ≤ (v_100034 : Int32).toInt ∧ (v_100034 : Int32).toInt ≤ 3 := by rw [v_100034_e]; exact h_n_fkind _
  refine lv_if_ne (tgt := 23) hx hb dX6_oneMoveMore_9 (by decide) (fun c_100035 => ?_) (fun c_100035 => ?_)
  · skip
    have c_100035_i := c_100035
    have c_100035_i : ¬ (v_100034 : Int32).toInt = (0 : Int32).toInt := (fun q => c_100035 (Int32.toInt_inj.mp q))
    have h_100036 : 1 ≤ (v_100034 : Int32).toInt ∧ (v_100034 : Int32).toInt ≤ 3 := by have q1 := h_v_100034; have q2 := (⟨by decide, by decide⟩ : 0 ≤ (0 : Int32).toInt ∧ (0 : Int32).toInt ≤ 0); omega
    refine lv_aload_n hx hb dX6_oneMoveMore_23 rfl (lv_at hl 0 rfl) ?_
    refine va_get (D := D) (ci := 6) (v := .ref n) (C := RX6) (T := TX6) (N := 4) hx hb hts inlX6 hown hK hP 0 rfl rfl 0 (by decide) (hts (Cond.fieldLink RX6 19 "ChanceRings$Solver" "net" "LChanceRings$Net;") qw_548) (fun _ h9 => h9) rfl dX6_oneMoveMore_24 ?_
    refine va_get (D := D) (ci := 2) (v := .ref n_kind) (C := RX2) (T := TX2) (N := 8) hx hb hts inlX2 hown hK hP 1 rfl rfl 1 (by decide) (hts (Cond.fieldLink RX6 61 "ChanceRings$Net" "kind" "[I") qw_551) (fun _ h9 => h9) rfl dX6_oneMoveMore_27 ?_
    refine lv_iload_n hx hb dX6_oneMoveMore_30 rfl (lv_at hl 1 rfl) ?_
    refine va_iald hx hb hK hP 2 0 rfl rfl (tr_in h_p0 (by decide) (by decide)) dX6_oneMoveMore_31 ?_
    refine tz_i (y := v_100034) v_100034_e.symm ?_
    refine lv_iconst (v := 3) hx hb dX6_oneMoveMore_32 (by decide) ?_
    refine lv_icmp_eq (tgt := 109) hx hb dX6_oneMoveMore_33 (by decide) (fun c_100038 => ?_) (fun c_100038 => ?_)
    · skip
      have c_100038_i := c_100038
      have c_100038_i : (v_100034 : Int32).toInt = (3 : Int32).toInt := congrArg Int32.toInt c_100038
      have h_100039 : 3 ≤ (v_100034 : Int32).toInt ∧ (v_100034 : Int32).toInt ≤ 3 := by have q1 := h_100036; have q2 := (⟨by decide, by decide⟩ : 3 ≤ (3 : Int32).toInt ∧ (3 : Int32).toInt ≤ 3); omega
      refine lv_lconst (v := 0) hx hb dX6_oneMoveMore_109 (by decide) ?_
      refine lv_lstore_n (lv' := [(3, .long 0), (0, .ref sv), (1, .int p0), (2, .ref vs)]) hx hb dX6_oneMoveMore_110 rfl hl (by decide) rfl (fun ls hl => ?_)
      refine lv_iconst (v := 0) hx hb dX6_oneMoveMore_111 (by decide) ?_
      refine lv_istore (lv' := [(5, .int 0), (3, .long 0), (0, .ref sv), (1, .int p0), (2, .ref vs)]) hx hb dX6_oneMoveMore_112 hl (by decide) rfl (fun ls hl => ?_)
      have lp_100120 : ∀ (n_100120 : Nat) (x_100118 : Int32) (x_100119 : Int64) (ls : Array Slot), (0 ≤ (x_100118 : Int32).toInt ∧ (x_100118 : Int32).toInt ≤ 3) → (3 - x_100118.toInt < (n_100120 : Int)) → lv_has ls 6 [(5, .int x_100118), (3, .long x_100119), (0, .ref sv), (1, .int p0), (2, .ref vs)] → W p l e (headSpec (.code yX6_oneMoveMore cX6_oneMoveMore 6 (some .long) :: wsL_law) ({ frames := 2, cells := 0, slots := 0, locals := 50 })).room s m args below meth c s.heap [] 0 0 (MQ below (vp_Sl (fun r => True)) args s 0 0 (fun _ => False)) (F0 m 114 ls []) := by
        intro n_100120
        induction n_100120 with
        | zero =>
          intro x_100118 x_100119 ls h_x_100118 hm_100120 hl
          exfalso; omega
        | succ n_100120 ih_100120 =>
          intro x_100118 x_100119 ls h_x_100118 hm_100120 hl
          refine lv_iload hx hb dX6_oneMoveMore_114 (lv_at hl 0 rfl) ?_
          refine lv_aload_n hx hb dX6_oneMoveMore_116 rfl (lv_at hl 2 rfl) ?_
          refine va_get (D := D) (ci := 6) (v := .ref n) (C := RX6) (T := TX6) (N := 4) hx hb hts inlX6 hown hK hP 0 rfl rfl 0 (by decide) (hts (Cond.fieldLink RX6 19 "ChanceRings$Solver" "net" "LChanceRings$Net;") qw_548) (fun _ h9 => h9) rfl dX6_oneMoveMore_117 ?_
          refine va_get (D := D) (ci := 2) (v := .ref n_ways) (C := RX2) (T := TX2) (N := 8) hx hb hts inlX2 hown hK hP 1 rfl rfl 4 (by decide) (hts (Cond.fieldLink RX6 68 "ChanceRings$Net" "ways" "[I") qw_552) (fun _ h9 => h9) rfl dX6_oneMoveMore_120 ?_
          refine lv_iload_n hx hb dX6_oneMoveMore_123 rfl (lv_at hl 3 rfl) ?_
          refine va_iald hx hb hK hP 3 0 rfl rfl (tr_in h_p0 (by decide) (by decide)) dX6_oneMoveMore_124 ?_
          refine lv_topi (fun v_100121 v_100121_e => ?_)
          have h_v_100121 : 0 ≤ (v_100121 : Int32).toInt ∧ (v_100121 : Int32).toInt ≤ 3 := by rw [v_100121_e]; exact h_n_fways _
          refine lv_icmp_ge (tgt := 164) hx hb dX6_oneMoveMore_125 (by decide) (fun c_100122 => ?_) (fun c_100122 => ?_)
          · skip
            refine lv_aload_n hx hb dX6_oneMoveMore_164 rfl (lv_at hl 2 rfl) ?_
            refine va_get (D := D) (ci := 6) (v := .ref n) (C := RX6) (T := TX6) (N := 4) hx hb hts inlX6 hown hK hP 0 rfl rfl 0 (by decide) (hts (Cond.fieldLink RX6 19 "ChanceRings$Solver" "net" "LChanceRings$Net;") qw_548) (fun _ h9 => h9) rfl dX6_oneMoveMore_165 ?_
            refine lv_iload_n hx hb dX6_oneMoveMore_168 rfl (lv_at hl 3 rfl) ?_
            have hPc := hP.sub (ws' := [(n, .inr (2, [.int n_nodes, .ref n_kind, .ref n_pay, .ref n_name, .ref n_ways, .ref n_held, .ref n_targets, .ref n_weights])), (n_kind, .inl (g 0, 12, .inl n_fkind)), (n_ways, .inl (g 0, 12, .inl n_fways)), (n_weights, .inl (g 0, 36, .inl n_fweights))]) [1, 2, 3, 6] rfl
            refine vp_callSi (va_Run.run (va_runV (As := [.int p0]) (rest := []) ⟨hx, hb, hml, hown, hts⟩ (c_X2_together l D g n p0 n_nodes n_kind n_pay n_name n_ways n_held n_targets n_weights n_fkind n_fways n_fweights (tr_w h_p0 (by decide) (by decide)) (tr_w h_n_nodes (by decide) (by decide)) (tr_wa h_n_fkind (by decide) (by decide)) (tr_wa h_n_fways (by decide) (by decide))) (cwV 1 hts (tz_gV qw_608 qw_445 qw_446 qw_322 qw_447) rfl rfl rfl (by decide +kernel) ⟨Nat.le_of_ble_eq_true rfl, Nat.le_of_ble_eq_true rfl⟩) ⟨tz_blS, va_recv hK hPc (ci := 2) (q0 := 0) rfl rfl, tz_preS hPc hK⟩ rfl rfl hl.1 rfl (lv_room (Nat.le_of_ble_eq_true rfl)) dX6_oneMoveMore_169 ⟨Nat.le_of_ble_eq_true rfl, Nat.le_of_ble_eq_true rfl⟩)) (fun r_100125 hw => ?_)
            refine lv_istore (lv' := [(5, .int r_100125), (3, .long x_100119), (0, .ref sv), (1, .int p0), (2, .ref vs)]) hx hb dX6_oneMoveMore_172 hl (by decide) rfl (fun ls hl => ?_)
            refine lv_iload hx hb dX6_oneMoveMore_174 (lv_at hl 0 rfl) ?_
            refine lv_if_ne (tgt := 183) hx hb dX6_oneMoveMore_176 (by decide) (fun c_100126 => ?_) (fun c_100126 => ?_)
            · skip
              refine lv_bipush (v := 12) hx hb dX6_oneMoveMore_183 (by decide) ?_
              refine lv_iload hx hb dX6_oneMoveMore_185 (lv_at hl 0 rfl) ?_
              refine lv_idiv hx hb dX6_oneMoveMore_187 c_100126 ?_
              refine lv_topi (fun v_100128 v_100128_e => ?_)
              refine lv_i2l hx hb dX6_oneMoveMore_188 rfl ?_
              refine lv_topl (fun w_100129 _ => ?_)
              refine lv_lload_n hx hb dX6_oneMoveMore_189 rfl (lv_at hl 1 rfl) ?_
              refine lv_lmul hx hb dX6_oneMoveMore_190 ?_
              refine lv_topl (fun w_100130 _ => ?_)
              exact W.lret (v := w_100130) hx hb hr (fun t ht hW => ⟨w_100130, rfl, trivial, ht⟩) (fun _ h => nomatch h) dX6_oneMoveMore_191
            · skip
              have h_100127 : 0 ≤ (r_100125 : Int32).toInt ∧ (r_100125 : Int32).toInt ≤ 0 := by rw [c_100126]; exact ⟨by decide, by decide⟩
              refine lv_lconst (v := 0) hx hb dX6_oneMoveMore_179 (by decide) ?_
              refine lv_goto (tgt := 191) hx hb dX6_oneMoveMore_180 (by decide) ?_
              exact W.lret (v := 0) hx hb hr (fun t ht hW => ⟨0, rfl, trivial, ht⟩) (fun _ h => nomatch h) dX6_oneMoveMore_191
          · skip
            have c_100122_i := Int32.lt_iff_toInt_lt.mp (Int32.not_le.mp c_100122)
            have h_100123 : 0 ≤ (x_100118 : Int32).toInt ∧ (x_100118 : Int32).toInt ≤ 2 := by have q1 := h_x_100118; have q2 := h_v_100121; omega
            have h_100124 : 1 ≤ (v_100121 : Int32).toInt ∧ (v_100121 : Int32).toInt ≤ 3 := by have q1 := h_x_100118; have q2 := h_v_100121; omega
            refine lv_lload_n hx hb dX6_oneMoveMore_128 rfl (lv_at hl 1 rfl) ?_
            refine lv_aload_n hx hb dX6_oneMoveMore_129 rfl (lv_at hl 2 rfl) ?_
            refine va_get (D := D) (ci := 6) (v := .ref n) (C := RX6) (T := TX6) (N := 4) hx hb hts inlX6 hown hK hP 0 rfl rfl 0 (by decide) (hts (Cond.fieldLink RX6 19 "ChanceRings$Solver" "net" "LChanceRings$Net;") qw_548) (fun _ h9 => h9) rfl dX6_oneMoveMore_130 ?_
            refine lv_iload_n hx hb dX6_oneMoveMore_133 rfl (lv_at hl 3 rfl) ?_
            refine lv_iload hx hb dX6_oneMoveMore_134 (lv_at hl 0 rfl) ?_
            have hPc := hP.sub (ws' := [(n, .inr (2, [.int n_nodes, .ref n_kind, .ref n_pay, .ref n_name, .ref n_ways, .ref n_held, .ref n_targets, .ref n_weights])), (n_weights, .inl (g 0, 36, .inl n_fweights))]) [1, 6] rfl
            refine vp_callSi (va_Run.run (va_runV (As := [.int p0, .int x_100118]) (rest := [.long x_100119]) ⟨hx, hb, hml, hown, hts⟩ (c_X2_weight l D g n p0 x_100118 n_nodes n_kind n_pay n_name n_ways n_held n_targets n_weights n_fweights (tr_w h_p0 (by decide) (by decide)) (tr_w h_100123 (by decide) (by decide)) (tr_w h_n_nodes (by decide) (by decide))) (cwV 2 hts (tz_gV qw_609 qw_375 qw_376 qw_322 qw_377) rfl rfl rfl (by decide +kernel) ⟨Nat.le_of_ble_eq_true rfl, Nat.le_of_ble_eq_true rfl⟩) ⟨tz_blS, va_recv hK hPc (ci := 2) (q0 := 0) rfl rfl, tz_preS hPc hK⟩ rfl rfl hl.1 rfl (lv_room (Nat.le_of_ble_eq_true rfl)) dX6_oneMoveMore_136 ⟨Nat.le_of_ble_eq_true rfl, Nat.le_of_ble_eq_true rfl⟩)) (fun r_100131 hw => ?_)
            refine lv_i2l hx hb dX6_oneMoveMore_139 rfl ?_
            refine lv_topl (fun w_100132 _ => ?_)
            refine lv_aload_n hx hb dX6_oneMoveMore_140 rfl (lv_at hl 4 rfl) ?_
            refine va_get (D := D) (ci := 10) (v := .ref vs_part) (C := RX10) (T := TX10) (N := 2) hx hb hts inlX10 hown hK hP 7 rfl rfl 0 (by decide) (hts (Cond.fieldLink RX6 71 "ChanceRings$Values" "part" "[J") qw_553) (fun _ h9 => h9) rfl dX6_oneMoveMore_141 ?_
            refine lv_aload_n hx hb dX6_oneMoveMore_144 rfl (lv_at hl 2 rfl) ?_
            refine va_get (D := D) (ci := 6) (v := .ref n) (C := RX6) (T := TX6) (N := 4) hx hb hts inlX6 hown hK hP 0 rfl rfl 0 (by decide) (hts (Cond.fieldLink RX6 19 "ChanceRings$Solver" "net" "LChanceRings$Net;") qw_548) (fun _ h9 => h9) rfl dX6_oneMoveMore_145 ?_
            refine lv_iload_n hx hb dX6_oneMoveMore_148 rfl (lv_at hl 3 rfl) ?_
            refine lv_iload hx hb dX6_oneMoveMore_149 (lv_at hl 0 rfl) ?_
            have hPc := hP.sub (ws' := [(n, .inr (2, [.int n_nodes, .ref n_kind, .ref n_pay, .ref n_name, .ref n_ways, .ref n_held, .ref n_targets, .ref n_weights])), (n_targets, .inl (g 0, 36, .inl n_ftargets))]) [1, 5] rfl
            refine vp_callSi (va_Run.run (va_runV (As := [.int p0, .int x_100118]) (rest := [.ref vs_part, .long w_100132, .long x_100119]) ⟨hx, hb, hml, hown, hts⟩ (c_X2_target l D g n p0 x_100118 n_nodes n_kind n_pay n_name n_ways n_held n_targets n_weights n_ftargets (tr_w h_p0 (by decide) (by decide)) (tr_w h_100123 (by decide) (by decide)) (tr_w h_n_nodes (by decide) (by decide)) (tr_wa h_n_ftargets (by decide) (by decide))) (cwV 2 hts (tz_gV qw_554 qw_325 qw_326 qw_322 qw_327) rfl rfl rfl (by decide +kernel) ⟨Nat.le_of_ble_eq_true rfl, Nat.le_of_ble_eq_true rfl⟩) ⟨tz_blS, va_recv hK hPc (ci := 2) (q0 := 0) rfl rfl, tz_preS hPc hK⟩ rfl rfl hl.1 rfl (lv_room (Nat.le_of_ble_eq_true rfl)) dX6_oneMoveMore_151 ⟨Nat.le_of_ble_eq_true rfl, Nat.le_of_ble_eq_true rfl⟩)) (fun r_100133 hw => ?_)
            have hw_100134 : 0 ≤ (r_100133 : Int32).toInt ∧ (r_100133 : Int32).toInt ≤ 11 := hw
            refine va_lald hx hb hK hP 8 1 rfl rfl (tr_in hw_100134 (by decide) (by decide)) dX6_oneMoveMore_154 ?_
            refine lv_topl (fun w_100135 _ => ?_)
            refine lv_lmul hx hb dX6_oneMoveMore_155 ?_
            refine lv_topl (fun w_100136 _ => ?_)
            refine lv_ladd hx hb dX6_oneMoveMore_156 ?_
            refine lv_topl (fun w_100137 _ => ?_)
            refine lv_lstore_n (lv' := [(3, .long w_100137), (5, .int x_100118), (0, .ref sv), (1, .int p0), (2, .ref vs)]) hx hb dX6_oneMoveMore_157 rfl hl (by decide) rfl (fun ls hl => ?_)
            obtain ⟨v_100138, v_100138_e⟩ : ∃ y : Int32, y = x_100118 + Int32.ofInt 1 := ⟨_, rfl⟩
            have h_v_100138 : 1 ≤ (v_100138 : Int32).toInt ∧ (v_100138 : Int32).toInt ≤ 3 := by rw [v_100138_e]; exact tr_add h_100123 (⟨by decide, by decide⟩ : 1 ≤ (Int32.ofInt 1 : Int32).toInt ∧ (Int32.ofInt 1 : Int32).toInt ≤ 1) (by decide) (by decide) (by decide) (by decide)
            have q_v_100138 : v_100138.toInt = x_100118.toInt + 1 := by rw [v_100138_e]; exact tr_addE h_100123 (⟨by decide, by decide⟩ : 1 ≤ (Int32.ofInt 1 : Int32).toInt ∧ (Int32.ofInt 1 : Int32).toInt ≤ 1) (by decide) (by decide)
            refine lv_iinc (v := v_100138) (lv' := [(5, .int v_100138), (3, .long w_100137), (0, .ref sv), (1, .int p0), (2, .ref vs)]) hx hb dX6_oneMoveMore_158 hl (k := 1) rfl v_100138_e.symm (by decide) rfl (fun ls hl => ?_)
            refine lv_goto (tgt := 114) hx hb dX6_oneMoveMore_161 (by decide) ?_
            exact ih_100120 v_100138 w_100137 ls (tr_w h_v_100138 (by decide) (by decide)) (by omega) (lv_sub hl [0, 1, 2, 3, 4] rfl)
      exact lp_100120 4 0 0 ls (⟨by decide, by decide⟩ : 0 ≤ (0 : Int32).toInt ∧ (0 : Int32).toInt ≤ 3) (by decide) (lv_sub hl [0, 1, 2, 3, 4] rfl)
    · skip
      have c_100038_i := c_100038
      have c_100038_i : ¬ (v_100034 : Int32).toInt = (3 : Int32).toInt := (fun q => c_100038 (Int32.toInt_inj.mp q))
      have h_100040 : 1 ≤ (v_100034 : Int32).toInt ∧ (v_100034 : Int32).toInt ≤ 2 := by have q1 := h_100036; have q2 := (⟨by decide, by decide⟩ : 3 ≤ (3 : Int32).toInt ∧ (3 : Int32).toInt ≤ 3); omega
      refine lv_aload_n hx hb dX6_oneMoveMore_36 rfl (lv_at hl 0 rfl) ?_
      refine va_get (D := D) (ci := 6) (v := .ref n) (C := RX6) (T := TX6) (N := 4) hx hb hts inlX6 hown hK hP 0 rfl rfl 0 (by decide) (hts (Cond.fieldLink RX6 19 "ChanceRings$Solver" "net" "LChanceRings$Net;") qw_548) (fun _ h9 => h9) rfl dX6_oneMoveMore_37 ?_
      refine va_get (D := D) (ci := 2) (v := .ref n_held) (C := RX2) (T := TX2) (N := 8) hx hb hts inlX2 hown hK hP 1 rfl rfl 5 (by decide) (hts (Cond.fieldLink RX6 38 "ChanceRings$Net" "held" "[I") qw_550) (fun _ h9 => h9) rfl dX6_oneMoveMore_40 ?_
      refine lv_iload_n hx hb dX6_oneMoveMore_43 rfl (lv_at hl 1 rfl) ?_
      refine va_iald hx hb hK hP 4 0 rfl rfl (tr_in h_p0 (by decide) (by decide)) dX6_oneMoveMore_44 ?_
      refine lv_topi (fun v_100139 v_100139_e => ?_)
      have h_v_100139 : (-1) ≤ (v_100139 : Int32).toInt ∧ (v_100139 : Int32).toInt ≤ 2 := by rw [v_100139_e]; exact h_n_fheld _
      refine lv_iconst (v := (-1)) hx hb dX6_oneMoveMore_45 (by decide) ?_
      refine lv_icmp_ne (tgt := 53) hx hb dX6_oneMoveMore_46 (by decide) (fun c_100140 => ?_) (fun c_100140 => ?_)
      · skip
        have c_100140_i := c_100140
        have c_100140_i : ¬ (v_100139 : Int32).toInt = ((-1) : Int32).toInt := (fun q => c_100140 (Int32.toInt_inj.mp q))
        have h_100141 : 0 ≤ (v_100139 : Int32).toInt ∧ (v_100139 : Int32).toInt ≤ 2 := by have q1 := h_v_100139; have q2 := (⟨by decide, by decide⟩ : (-1) ≤ ((-1) : Int32).toInt ∧ ((-1) : Int32).toInt ≤ (-1)); omega
        refine lv_aload_n hx hb dX6_oneMoveMore_53 rfl (lv_at hl 0 rfl) ?_
        refine va_get (D := D) (ci := 6) (v := .ref n) (C := RX6) (T := TX6) (N := 4) hx hb hts inlX6 hown hK hP 0 rfl rfl 0 (by decide) (hts (Cond.fieldLink RX6 19 "ChanceRings$Solver" "net" "LChanceRings$Net;") qw_548) (fun _ h9 => h9) rfl dX6_oneMoveMore_54 ?_
        refine va_get (D := D) (ci := 2) (v := .ref n_held) (C := RX2) (T := TX2) (N := 8) hx hb hts inlX2 hown hK hP 1 rfl rfl 5 (by decide) (hts (Cond.fieldLink RX6 38 "ChanceRings$Net" "held" "[I") qw_550) (fun _ h9 => h9) rfl dX6_oneMoveMore_57 ?_
        refine lv_iload_n hx hb dX6_oneMoveMore_60 rfl (lv_at hl 1 rfl) ?_
        refine va_iald hx hb hK hP 4 0 rfl rfl (tr_in h_p0 (by decide) (by decide)) dX6_oneMoveMore_61 ?_
        refine tz_i (y := v_100139) v_100139_e.symm ?_
        refine lv_istore_n (lv' := [(3, .int v_100139), (0, .ref sv), (1, .int p0), (2, .ref vs)]) hx hb dX6_oneMoveMore_62 rfl hl (by decide) rfl (fun ls hl => ?_)
        refine lv_aload_n hx hb dX6_oneMoveMore_63 rfl (lv_at hl 1 rfl) ?_
        refine va_get (D := D) (ci := 6) (v := .ref n) (C := RX6) (T := TX6) (N := 4) hx hb hts inlX6 hown hK hP 0 rfl rfl 0 (by decide) (hts (Cond.fieldLink RX6 19 "ChanceRings$Solver" "net" "LChanceRings$Net;") qw_548) (fun _ h9 => h9) rfl dX6_oneMoveMore_64 ?_
        refine va_get (D := D) (ci := 2) (v := .ref n_held) (C := RX2) (T := TX2) (N := 8) hx hb hts inlX2 hown hK hP 1 rfl rfl 5 (by decide) (hts (Cond.fieldLink RX6 38 "ChanceRings$Net" "held" "[I") qw_550) (fun _ h9 => h9) rfl dX6_oneMoveMore_67 ?_
        refine lv_iload_n hx hb dX6_oneMoveMore_70 rfl (lv_at hl 2 rfl) ?_
        refine va_iald hx hb hK hP 4 0 rfl rfl (tr_in h_p0 (by decide) (by decide)) dX6_oneMoveMore_71 ?_
        refine tz_i (y := v_100139) v_100139_e.symm ?_
        refine lv_iconst (v := (-1)) hx hb dX6_oneMoveMore_72 (by decide) ?_
        refine lv_icmp_ne (tgt := 86) hx hb dX6_oneMoveMore_73 (by decide) (fun c_100143 => ?_) (fun h9 => by exfalso; have q1 := h_100141; have q2 := (⟨by decide, by decide⟩ : (-1) ≤ ((-1) : Int32).toInt ∧ ((-1) : Int32).toInt ≤ (-1)); have h8 : (v_100139 : Int32).toInt = ((-1) : Int32).toInt := congrArg Int32.toInt h9; omega)
        refine lv_iload_n hx hb dX6_oneMoveMore_86 rfl (lv_at hl 0 rfl) ?_
        refine lv_istore (lv' := [(4, .int v_100139), (3, .int v_100139), (0, .ref sv), (1, .int p0), (2, .ref vs)]) hx hb dX6_oneMoveMore_87 hl (by decide) rfl (fun ls hl => ?_)
        refine lv_ldc2 (v := 12) hx hb hown (hts (Cond.constantLong RX6 109 (12)) qw_610) dX6_oneMoveMore_89 ?_
        refine lv_aload_n hx hb dX6_oneMoveMore_92 rfl (lv_at hl 4 rfl) ?_
        refine va_get (D := D) (ci := 10) (v := .ref vs_part) (C := RX10) (T := TX10) (N := 2) hx hb hts inlX10 hown hK hP 7 rfl rfl 0 (by decide) (hts (Cond.fieldLink RX6 71 "ChanceRings$Values" "part" "[J") qw_553) (fun _ h9 => h9) rfl dX6_oneMoveMore_93 ?_
        refine lv_aload_n hx hb dX6_oneMoveMore_96 rfl (lv_at hl 2 rfl) ?_
        refine va_get (D := D) (ci := 6) (v := .ref n) (C := RX6) (T := TX6) (N := 4) hx hb hts inlX6 hown hK hP 0 rfl rfl 0 (by decide) (hts (Cond.fieldLink RX6 19 "ChanceRings$Solver" "net" "LChanceRings$Net;") qw_548) (fun _ h9 => h9) rfl dX6_oneMoveMore_97 ?_
        refine lv_iload_n hx hb dX6_oneMoveMore_100 rfl (lv_at hl 3 rfl) ?_
        refine lv_iload hx hb dX6_oneMoveMore_101 (lv_at hl 0 rfl) ?_
        have hPc := hP.sub (ws' := [(n, .inr (2, [.int n_nodes, .ref n_kind, .ref n_pay, .ref n_name, .ref n_ways, .ref n_held, .ref n_targets, .ref n_weights])), (n_targets, .inl (g 0, 36, .inl n_ftargets))]) [1, 5] rfl
        refine vp_callSi (va_Run.run (va_runV (As := [.int p0, .int v_100139]) (rest := [.ref vs_part, .long 12]) ⟨hx, hb, hml, hown, hts⟩ (c_X2_target l D g n p0 v_100139 n_nodes n_kind n_pay n_name n_ways n_held n_targets n_weights n_ftargets (tr_w h_p0 (by decide) (by decide)) (tr_w h_100141 (by decide) (by decide)) (tr_w h_n_nodes (by decide) (by decide)) (tr_wa h_n_ftargets (by decide) (by decide))) (cwV 2 hts (tz_gV qw_554 qw_325 qw_326 qw_322 qw_327) rfl rfl rfl (by decide +kernel) ⟨Nat.le_of_ble_eq_true rfl, Nat.le_of_ble_eq_true rfl⟩) ⟨tz_blS, va_recv hK hPc (ci := 2) (q0 := 0) rfl rfl, tz_preS hPc hK⟩ rfl rfl hl.1 rfl (lv_room (Nat.le_of_ble_eq_true rfl)) dX6_oneMoveMore_103 ⟨Nat.le_of_ble_eq_true rfl, Nat.le_of_ble_eq_true rfl⟩)) (fun r_100144 hw => ?_)
        have hw_100145 : 0 ≤ (r_100144 : Int32).toInt ∧ (r_100144 : Int32).toInt ≤ 11 := hw
        refine va_lald hx hb hK hP 8 1 rfl rfl (tr_in hw_100145 (by decide) (by decide)) dX6_oneMoveMore_106 ?_
        refine lv_topl (fun w_100146 _ => ?_)
        refine lv_lmul hx hb dX6_oneMoveMore_107 ?_
        refine lv_topl (fun w_100147 _ => ?_)
        exact W.lret (v := w_100147) hx hb hr (fun t ht hW => ⟨w_100147, rfl, trivial, ht⟩) (fun _ h => nomatch h) dX6_oneMoveMore_108
      · skip
        have c_100140_i := c_100140
        have c_100140_i : (v_100139 : Int32).toInt = ((-1) : Int32).toInt := congrArg Int32.toInt c_100140
        have h_100142 : (-1) ≤ (v_100139 : Int32).toInt ∧ (v_100139 : Int32).toInt ≤ (-1) := by have q1 := h_v_100139; have q2 := (⟨by decide, by decide⟩ : (-1) ≤ ((-1) : Int32).toInt ∧ ((-1) : Int32).toInt ≤ (-1)); omega
        refine lv_iconst (v := 0) hx hb dX6_oneMoveMore_49 (by decide) ?_
        refine lv_goto (tgt := 62) hx hb dX6_oneMoveMore_50 (by decide) ?_
        refine lv_istore_n (lv' := [(3, .int 0), (0, .ref sv), (1, .int p0), (2, .ref vs)]) hx hb dX6_oneMoveMore_62 rfl hl (by decide) rfl (fun ls hl => ?_)
        refine lv_aload_n hx hb dX6_oneMoveMore_63 rfl (lv_at hl 1 rfl) ?_
        refine va_get (D := D) (ci := 6) (v := .ref n) (C := RX6) (T := TX6) (N := 4) hx hb hts inlX6 hown hK hP 0 rfl rfl 0 (by decide) (hts (Cond.fieldLink RX6 19 "ChanceRings$Solver" "net" "LChanceRings$Net;") qw_548) (fun _ h9 => h9) rfl dX6_oneMoveMore_64 ?_
        refine va_get (D := D) (ci := 2) (v := .ref n_held) (C := RX2) (T := TX2) (N := 8) hx hb hts inlX2 hown hK hP 1 rfl rfl 5 (by decide) (hts (Cond.fieldLink RX6 38 "ChanceRings$Net" "held" "[I") qw_550) (fun _ h9 => h9) rfl dX6_oneMoveMore_67 ?_
        refine lv_iload_n hx hb dX6_oneMoveMore_70 rfl (lv_at hl 2 rfl) ?_
        refine va_iald hx hb hK hP 4 0 rfl rfl (tr_in h_p0 (by decide) (by decide)) dX6_oneMoveMore_71 ?_
        refine tz_i (y := v_100139) v_100139_e.symm ?_
        refine lv_iconst (v := (-1)) hx hb dX6_oneMoveMore_72 (by decide) ?_
        refine lv_icmp_ne (tgt := 86) hx hb dX6_oneMoveMore_73 (by decide) (fun h9 => by exfalso; have q1 := h_100142; have q2 := (⟨by decide, by decide⟩ : (-1) ≤ ((-1) : Int32).toInt ∧ ((-1) : Int32).toInt ≤ (-1)); have h8 : ¬ (v_100139 : Int32).toInt = ((-1) : Int32).toInt := fun q => h9 (Int32.toInt_inj.mp q); omega) (fun c_100148 => ?_)
        refine lv_aload_n hx hb dX6_oneMoveMore_76 rfl (lv_at hl 1 rfl) ?_
        refine lv_iload_n hx hb dX6_oneMoveMore_77 rfl (lv_at hl 2 rfl) ?_
        refine lv_iload_n hx hb dX6_oneMoveMore_78 rfl (lv_at hl 0 rfl) ?_
        refine lv_aload_n hx hb dX6_oneMoveMore_79 rfl (lv_at hl 3 rfl) ?_
        have hPc := hP.sub (ws' := [(sv, .inr (6, [.ref n, .ref co, .ref sv_keep, .ref sv_scaled])), (n, .inr (2, [.int n_nodes, .ref n_kind, .ref n_pay, .ref n_name, .ref n_ways, .ref n_held, .ref n_targets, .ref n_weights])), (n_kind, .inl (g 0, 12, .inl n_fkind)), (n_ways, .inl (g 0, 12, .inl n_fways)), (n_targets, .inl (g 0, 36, .inl n_ftargets)), (vs, .inr (10, [.ref vs_part, .long vsw])), (vs_part, .inl (g 1, 12, .inr (.inl vsp)))]) [0, 1, 2, 3, 5, 7, 8] rfl
        refine vp_callSi (va_Run.run (va_runV (As := [.int p0, .int 0, .ref vs]) (rest := []) ⟨hx, hb, hml, hown, hts⟩ (c_X6_betterWay l D g sv p0 0 vs n co sv_keep sv_scaled n_nodes n_kind n_pay n_name n_ways n_held n_targets n_weights n_fkind n_fways n_ftargets vs_part vsw vsp (tr_w h_p0 (by decide) (by decide)) (⟨by decide, by decide⟩ : 0 ≤ (0 : Int32).toInt ∧ (0 : Int32).toInt ≤ 2) (tr_w h_n_nodes (by decide) (by decide)) (tr_wa h_n_fkind (by decide) (by decide)) (tr_wa h_n_fways (by decide) (by decide)) (tr_wa h_n_ftargets (by decide) (by decide))) (cwV 3 hts (tz_gV qw_555 qw_556 qw_557 qw_558 qw_559) rfl rfl rfl (by decide +kernel) ⟨Nat.le_of_ble_eq_true rfl, Nat.le_of_ble_eq_true rfl⟩) ⟨tz_blS, va_recv hK hPc (ci := 6) (q0 := 0) rfl rfl, tz_preS hPc hK⟩ rfl rfl hl.1 rfl (lv_room (Nat.le_of_ble_eq_true rfl)) dX6_oneMoveMore_80 ⟨Nat.le_of_ble_eq_true rfl, Nat.le_of_ble_eq_true rfl⟩)) (fun r_100149 hw => ?_)
        have hw_100150 : 0 ≤ (r_100149 : Int32).toInt ∧ (r_100149 : Int32).toInt ≤ 2 := hw
        refine lv_goto (tgt := 87) hx hb dX6_oneMoveMore_83 (by decide) ?_
        refine lv_istore (lv' := [(4, .int r_100149), (3, .int 0), (0, .ref sv), (1, .int p0), (2, .ref vs)]) hx hb dX6_oneMoveMore_87 hl (by decide) rfl (fun ls hl => ?_)
        refine lv_ldc2 (v := 12) hx hb hown (hts (Cond.constantLong RX6 109 (12)) qw_610) dX6_oneMoveMore_89 ?_
        refine lv_aload_n hx hb dX6_oneMoveMore_92 rfl (lv_at hl 4 rfl) ?_
        refine va_get (D := D) (ci := 10) (v := .ref vs_part) (C := RX10) (T := TX10) (N := 2) hx hb hts inlX10 hown hK hP 7 rfl rfl 0 (by decide) (hts (Cond.fieldLink RX6 71 "ChanceRings$Values" "part" "[J") qw_553) (fun _ h9 => h9) rfl dX6_oneMoveMore_93 ?_
        refine lv_aload_n hx hb dX6_oneMoveMore_96 rfl (lv_at hl 2 rfl) ?_
        refine va_get (D := D) (ci := 6) (v := .ref n) (C := RX6) (T := TX6) (N := 4) hx hb hts inlX6 hown hK hP 0 rfl rfl 0 (by decide) (hts (Cond.fieldLink RX6 19 "ChanceRings$Solver" "net" "LChanceRings$Net;") qw_548) (fun _ h9 => h9) rfl dX6_oneMoveMore_97 ?_
        refine lv_iload_n hx hb dX6_oneMoveMore_100 rfl (lv_at hl 3 rfl) ?_
        refine lv_iload hx hb dX6_oneMoveMore_101 (lv_at hl 0 rfl) ?_
        have hPc := hP.sub (ws' := [(n, .inr (2, [.int n_nodes, .ref n_kind, .ref n_pay, .ref n_name, .ref n_ways, .ref n_held, .ref n_targets, .ref n_weights])), (n_targets, .inl (g 0, 36, .inl n_ftargets))]) [1, 5] rfl
        refine vp_callSi (va_Run.run (va_runV (As := [.int p0, .int r_100149]) (rest := [.ref vs_part, .long 12]) ⟨hx, hb, hml, hown, hts⟩ (c_X2_target l D g n p0 r_100149 n_nodes n_kind n_pay n_name n_ways n_held n_targets n_weights n_ftargets (tr_w h_p0 (by decide) (by decide)) (tr_w hw_100150 (by decide) (by decide)) (tr_w h_n_nodes (by decide) (by decide)) (tr_wa h_n_ftargets (by decide) (by decide))) (cwV 2 hts (tz_gV qw_554 qw_325 qw_326 qw_322 qw_327) rfl rfl rfl (by decide +kernel) ⟨Nat.le_of_ble_eq_true rfl, Nat.le_of_ble_eq_true rfl⟩) ⟨tz_blS, va_recv hK hPc (ci := 2) (q0 := 0) rfl rfl, tz_preS hPc hK⟩ rfl rfl hl.1 rfl (lv_room (Nat.le_of_ble_eq_true rfl)) dX6_oneMoveMore_103 ⟨Nat.le_of_ble_eq_true rfl, Nat.le_of_ble_eq_true rfl⟩)) (fun r_100151 hw => ?_)
        have hw_100152 : 0 ≤ (r_100151 : Int32).toInt ∧ (r_100151 : Int32).toInt ≤ 11 := hw
        refine va_lald hx hb hK hP 8 1 rfl rfl (tr_in hw_100152 (by decide) (by decide)) dX6_oneMoveMore_106 ?_
        refine lv_topl (fun w_100153 _ => ?_)
        refine lv_lmul hx hb dX6_oneMoveMore_107 ?_
        refine lv_topl (fun w_100154 _ => ?_)
        exact W.lret (v := w_100154) hx hb hr (fun t ht hW => ⟨w_100154, rfl, trivial, ht⟩) (fun _ h => nomatch h) dX6_oneMoveMore_108
  · skip
    have c_100035_i := c_100035
    have c_100035_i : (v_100034 : Int32).toInt = (0 : Int32).toInt := congrArg Int32.toInt c_100035
    have h_100037 : 0 ≤ (v_100034 : Int32).toInt ∧ (v_100034 : Int32).toInt ≤ 0 := by have q1 := h_v_100034; have q2 := (⟨by decide, by decide⟩ : 0 ≤ (0 : Int32).toInt ∧ (0 : Int32).toInt ≤ 0); omega
    refine lv_ldc2 (v := 12) hx hb hown (hts (Cond.constantLong RX6 109 (12)) qw_610) dX6_oneMoveMore_12 ?_
    refine lv_aload_n hx hb dX6_oneMoveMore_15 rfl (lv_at hl 2 rfl) ?_
    refine va_get (D := D) (ci := 10) (v := .ref vs_part) (C := RX10) (T := TX10) (N := 2) hx hb hts inlX10 hown hK hP 7 rfl rfl 0 (by decide) (hts (Cond.fieldLink RX6 71 "ChanceRings$Values" "part" "[J") qw_553) (fun _ h9 => h9) rfl dX6_oneMoveMore_16 ?_
    refine lv_iload_n hx hb dX6_oneMoveMore_19 rfl (lv_at hl 1 rfl) ?_
    refine va_lald hx hb hK hP 8 1 rfl rfl (tr_in h_p0 (by decide) (by decide)) dX6_oneMoveMore_20 ?_
    refine lv_topl (fun w_100155 _ => ?_)
    refine lv_lmul hx hb dX6_oneMoveMore_21 ?_
    refine lv_topl (fun w_100156 _ => ?_)
    exact W.lret (v := w_100156) hx hb hr (fun t ht hW => ⟨w_100156, rfl, trivial, ht⟩) (fun _ h => nomatch h) dX6_oneMoveMore_22
set_option maxHeartbeats 4000000 in
set_option maxRecDepth 100000 in
theorem c_X6_findWithin (l : Launch) (D : va_G) (g : Nat → ClassId) (sz : Nat) (sv : Nat) (p0 : Int32) (vs : Nat) (n : Nat) (co : Nat) (sv_keep : Nat) (sv_scaled : Nat) (n_nodes : Int32) (n_kind : Nat) (n_pay : Nat) (n_name : Nat) (n_ways : Nat) (n_held : Nat) (n_targets : Nat) (n_weights : Nat) (n_fkind : Nat → Int32) (n_fpay : Nat → Int32) (n_fways : Nat → Int32) (n_fheld : Nat → Int32) (n_ftargets : Nat → Int32) (n_fweights : Nat → Int32) (vs_part : Nat) (vsw : Int64) (vsp : Nat → Int64) (scf : Nat → Int64) (h_p0 : 0 ≤ (p0 : Int32).toInt ∧ (p0 : Int32).toInt ≤ 8) (h_n_nodes : 0 ≤ (n_nodes : Int32).toInt ∧ (n_nodes : Int32).toInt ≤ 12) (h_n_fkind : ∀ j : Nat, 0 ≤ (n_fkind j).toInt ∧ (n_fkind j).toInt ≤ 3) (h_n_fways : ∀ j : Nat, 0 ≤ (n_fways j).toInt ∧ (n_fways j).toInt ≤ 3) (h_n_fheld : ∀ j : Nat, (-1) ≤ (n_fheld j).toInt ∧ (n_fheld j).toInt ≤ 2) (h_n_ftargets : ∀ j : Nat, 0 ≤ (n_ftargets j).toInt ∧ (n_ftargets j).toInt ≤ 11) : Met l yX6_findWithin (.code yX6_findWithin cX6_findWithin 5 none :: wsL_law) ({ frames := 3, cells := 0, slots := 0, locals := 75 }) (va_Pc [.ref sv, .int p0, .ref vs] (fun U => U.heap.size = sz ∧ va_P D vwCl [(sv, .inr (6, [.ref n, .ref co, .ref sv_keep, .ref sv_scaled])), (n, .inr (2, [.int n_nodes, .ref n_kind, .ref n_pay, .ref n_name, .ref n_ways, .ref n_held, .ref n_targets, .ref n_weights])), (n_kind, .inl (g 0, 12, .inl n_fkind)), (n_pay, .inl (g 0, 12, .inl n_fpay)), (n_ways, .inl (g 0, 12, .inl n_fways)), (n_held, .inl (g 0, 12, .inl n_fheld)), (n_targets, .inl (g 0, 36, .inl n_ftargets)), (n_weights, .inl (g 0, 36, .inl n_fweights)), (vs, .inr (10, [.ref vs_part, .long vsw])), (vs_part, .inl (g 1, 12, .inr (.inl vsp))), (sv_scaled, .inl (g 1, 12, .inr (.inl scf)))] U.heap ∧ va_K D vwCl (TY g) U ∧ va_D (fun _ => True) [(sv, .inr (6, [.ref n, .ref co, .ref sv_keep, .ref sv_scaled])), (n, .inr (2, [.int n_nodes, .ref n_kind, .ref n_pay, .ref n_name, .ref n_ways, .ref n_held, .ref n_targets, .ref n_weights])), (n_kind, .inl (g 0, 12, .inl n_fkind)), (n_pay, .inl (g 0, 12, .inl n_fpay)), (n_ways, .inl (g 0, 12, .inl n_fways)), (n_held, .inl (g 0, 12, .inl n_fheld)), (n_targets, .inl (g 0, 36, .inl n_ftargets)), (n_weights, .inl (g 0, 36, .inl n_fweights)), (vs, .inr (10, [.ref vs_part, .long vsw])), (vs_part, .inl (g 1, 12, .inr (.inl vsp))), (sv_scaled, .inl (g 1, 12, .inr (.inl scf)))])) (va_Qv (fun (_ : Unit) => True) (fun _ t => ∃ ovw : Int64, ∃ ovp : Nat → Int64, ∃ osc : Nat → Int64, va_P D vwCl [(sv, .inr (6, [.ref n, .ref co, .ref sv_keep, .ref sv_scaled])), (n, .inr (2, [.int n_nodes, .ref n_kind, .ref n_pay, .ref n_name, .ref n_ways, .ref n_held, .ref n_targets, .ref n_weights])), (n_kind, .inl (g 0, 12, .inl n_fkind)), (n_pay, .inl (g 0, 12, .inl n_fpay)), (n_ways, .inl (g 0, 12, .inl n_fways)), (n_held, .inl (g 0, 12, .inl n_fheld)), (n_targets, .inl (g 0, 36, .inl n_ftargets)), (n_weights, .inl (g 0, 36, .inl n_fweights)), (vs, .inr (10, [.ref vs_part, .long ovw])), (vs_part, .inl (g 1, 12, .inr (.inl ovp))), (sv_scaled, .inl (g 1, 12, .inr (.inl osc)))] t.heap ∧ va_D (va_A [(sv, .inr (6, [.ref n, .ref co, .ref sv_keep, .ref sv_scaled])), (n, .inr (2, [.int n_nodes, .ref n_kind, .ref n_pay, .ref n_name, .ref n_ways, .ref n_held, .ref n_targets, .ref n_weights])), (n_kind, .inl (g 0, 12, .inl n_fkind)), (n_pay, .inl (g 0, 12, .inl n_fpay)), (n_ways, .inl (g 0, 12, .inl n_fways)), (n_held, .inl (g 0, 12, .inl n_fheld)), (n_targets, .inl (g 0, 36, .inl n_ftargets)), (n_weights, .inl (g 0, 36, .inl n_fweights)), (vs, .inr (10, [.ref vs_part, .long vsw])), (vs_part, .inl (g 1, 12, .inr (.inl vsp))), (sv_scaled, .inl (g 1, 12, .inr (.inl scf)))] sz) [(sv, .inr (6, [.ref n, .ref co, .ref sv_keep, .ref sv_scaled])), (n, .inr (2, [.int n_nodes, .ref n_kind, .ref n_pay, .ref n_name, .ref n_ways, .ref n_held, .ref n_targets, .ref n_weights])), (n_kind, .inl (g 0, 12, .inl n_fkind)), (n_pay, .inl (g 0, 12, .inl n_fpay)), (n_ways, .inl (g 0, 12, .inl n_fways)), (n_held, .inl (g 0, 12, .inl n_fheld)), (n_targets, .inl (g 0, 36, .inl n_ftargets)), (n_weights, .inl (g 0, 36, .inl n_fweights)), (vs, .inr (10, [.ref vs_part, .long ovw])), (vs_part, .inl (g 1, 12, .inr (.inl ovp))), (sv_scaled, .inl (g 1, 12, .inr (.inl osc)))]) (va_A [(sv, .inr (6, [.ref n, .ref co, .ref sv_keep, .ref sv_scaled])), (n, .inr (2, [.int n_nodes, .ref n_kind, .ref n_pay, .ref n_name, .ref n_ways, .ref n_held, .ref n_targets, .ref n_weights])), (n_kind, .inl (g 0, 12, .inl n_fkind)), (n_pay, .inl (g 0, 12, .inl n_fpay)), (n_ways, .inl (g 0, 12, .inl n_fways)), (n_held, .inl (g 0, 12, .inl n_fheld)), (n_targets, .inl (g 0, 36, .inl n_ftargets)), (n_weights, .inl (g 0, 36, .inl n_fweights)), (vs, .inr (10, [.ref vs_part, .long vsw])), (vs_part, .inl (g 1, 12, .inr (.inl vsp))), (sv_scaled, .inl (g 1, 12, .inr (.inl scf)))] sz)) 0 0 (va_A [(sv, .inr (6, [.ref n, .ref co, .ref sv_keep, .ref sv_scaled])), (n, .inr (2, [.int n_nodes, .ref n_kind, .ref n_pay, .ref n_name, .ref n_ways, .ref n_held, .ref n_targets, .ref n_weights])), (n_kind, .inl (g 0, 12, .inl n_fkind)), (n_pay, .inl (g 0, 12, .inl n_fpay)), (n_ways, .inl (g 0, 12, .inl n_fways)), (n_held, .inl (g 0, 12, .inl n_fheld)), (n_targets, .inl (g 0, 36, .inl n_ftargets)), (n_weights, .inl (g 0, 36, .inl n_fweights)), (vs, .inr (10, [.ref vs_part, .long vsw])), (vs_part, .inl (g 1, 12, .inr (.inl vsp))), (sv_scaled, .inl (g 1, 12, .inr (.inl scf)))] sz) := by
  refine Met.ofW (cc := cX6_findWithin) (maxL := 5) (ret := none) (by decide) rfl ?_
  intro p e s m args below meth c s₁ B hml hv
  obtain ⟨ha, hsz, hP, hK, hD0⟩ := hv
  have hx := B.exec
  have hb := B.bytes
  have hr := B.returns
  have hts0 := atoms_spec (ws := (.code yX6_findWithin cX6_findWithin 5 none :: wsL_law)) B.pre
  have hts : ∀ w ∈ wsL_law, w.before args s = true := fun w h => hts0 w (List.mem_cons_of_mem _ h)
  have hown : s.vm.findClass RX6 = some m.cls := findClass_of_methodNamed B.named
  have hlocks := B.notSynchronized
  subst hsz
  have hD := hD0.self (sz := s.heap.size)
  generalize hAe : va_A [(sv, .inr (6, [.ref n, .ref co, .ref sv_keep, .ref sv_scaled])), (n, .inr (2, [.int n_nodes, .ref n_kind, .ref n_pay, .ref n_name, .ref n_ways, .ref n_held, .ref n_targets, .ref n_weights])), (n_kind, .inl (g 0, 12, .inl n_fkind)), (n_pay, .inl (g 0, 12, .inl n_fpay)), (n_ways, .inl (g 0, 12, .inl n_fways)), (n_held, .inl (g 0, 12, .inl n_fheld)), (n_targets, .inl (g 0, 36, .inl n_ftargets)), (n_weights, .inl (g 0, 36, .inl n_fweights)), (vs, .inr (10, [.ref vs_part, .long vsw])), (vs_part, .inl (g 1, 12, .inr (.inl vsp))), (sv_scaled, .inl (g 1, 12, .inr (.inl scf)))] s.heap.size = A at hD ⊢
  have hA : ∀ q : Nat, s.heap.size ≤ q → A q := fun q h => by rw [← hAe]; exact Or.inr h
  have hS : va_S A s.heap s.heap [] := va_S.rf
  have hP : va_P D vwCl [(sv, .inr (6, [.ref n, .ref co, .ref sv_keep, .ref sv_scaled])), (n, .inr (2, [.int n_nodes, .ref n_kind, .ref n_pay, .ref n_name, .ref n_ways, .ref n_held, .ref n_targets, .ref n_weights])), (n_kind, .inl (g 0, 12, .inl n_fkind)), (n_pay, .inl (g 0, 12, .inl n_fpay)), (n_ways, .inl (g 0, 12, .inl n_fways)), (n_held, .inl (g 0, 12, .inl n_fheld)), (n_targets, .inl (g 0, 36, .inl n_ftargets)), (n_weights, .inl (g 0, 36, .inl n_fweights)), (vs, .inr (10, [.ref vs_part, .long vsw])), (vs_part, .inl (g 1, 12, .inr (.inl vsp))), (sv_scaled, .inl (g 1, 12, .inr (.inl scf)))] s.heap := hP
  refine W.eq (g2 := entryFrame m ([.ref sv, .int p0, .ref vs] : List Value).toArray 5) (by rw [ha]) ?_
  have hl := lv_entry ([.ref sv, .int p0, .ref vs]) (n := 5) (Nat.le_of_ble_eq_true rfl)
  rw [lg_entry_eq]
  generalize (lg_sl ([.ref sv, .int p0, .ref vs]) ++ List.replicate (5 - (lg_sl ([.ref sv, .int p0, .ref vs])).length) Slot.unset).toArray = ls at hl ⊢
  have hl : lv_has ls 5 [(0, .ref sv), (1, .int p0), (2, .ref vs)] := hl
  refine lv_aload_n hx hb dX6_findWithin_0 rfl (lv_at hl 2 rfl) ?_
  refine lv_lconst (v := 1) hx hb dX6_findWithin_1 (by decide) ?_
  refine va_put (D := D) (ci := 10) (v := .long 1) (ty := .long) (C := RX10) (T := TX10) (N := 2) hx hb hts inlX10 tyX10 tyX10_ok nmX10 hown hK hP hD hS 8 rfl rfl 1 (by decide) (hts (Cond.fieldLink RX6 92 "ChanceRings$Values" "whole" "J") qw_611) (fun _ h9 => h9) rfl (by decide +kernel) rfl rfl (Nat.le_of_ble_eq_true rfl) dX6_findWithin_2 (fun H locs hP hD hS => ?_)
  have hP : va_P D vwCl [(sv, .inr (6, [.ref n, .ref co, .ref sv_keep, .ref sv_scaled])), (n, .inr (2, [.int n_nodes, .ref n_kind, .ref n_pay, .ref n_name, .ref n_ways, .ref n_held, .ref n_targets, .ref n_weights])), (n_kind, .inl (g 0, 12, .inl n_fkind)), (n_pay, .inl (g 0, 12, .inl n_fpay)), (n_ways, .inl (g 0, 12, .inl n_fways)), (n_held, .inl (g 0, 12, .inl n_fheld)), (n_targets, .inl (g 0, 36, .inl n_ftargets)), (n_weights, .inl (g 0, 36, .inl n_fweights)), (vs, .inr (10, [.ref vs_part, .long 1])), (vs_part, .inl (g 1, 12, .inr (.inl vsp))), (sv_scaled, .inl (g 1, 12, .inr (.inl scf)))] H := hP
  have hD : va_D A [(sv, .inr (6, [.ref n, .ref co, .ref sv_keep, .ref sv_scaled])), (n, .inr (2, [.int n_nodes, .ref n_kind, .ref n_pay, .ref n_name, .ref n_ways, .ref n_held, .ref n_targets, .ref n_weights])), (n_kind, .inl (g 0, 12, .inl n_fkind)), (n_pay, .inl (g 0, 12, .inl n_fpay)), (n_ways, .inl (g 0, 12, .inl n_fways)), (n_held, .inl (g 0, 12, .inl n_fheld)), (n_targets, .inl (g 0, 36, .inl n_ftargets)), (n_weights, .inl (g 0, 36, .inl n_fweights)), (vs, .inr (10, [.ref vs_part, .long 1])), (vs_part, .inl (g 1, 12, .inr (.inl vsp))), (sv_scaled, .inl (g 1, 12, .inr (.inl scf)))] := hD
  refine lv_iconst (v := 0) hx hb dX6_findWithin_5 (by decide) ?_
  refine lv_istore_n (lv' := [(3, .int 0), (0, .ref sv), (1, .int p0), (2, .ref vs)]) hx hb dX6_findWithin_6 rfl hl (by decide) rfl (fun ls hl => ?_)
  have lp_103728 : ∀ (n_103728 : Nat) (x_103726 : Int32) (f_103727 : Nat → Int64) (H : Heap) (locs : List Loc) (ls : Array Slot), (0 ≤ (x_103726 : Int32).toInt ∧ (x_103726 : Int32).toInt ≤ 12) → (12 - x_103726.toInt < (n_103728 : Int)) → va_P D vwCl [(sv, .inr (6, [.ref n, .ref co, .ref sv_keep, .ref sv_scaled])), (n, .inr (2, [.int n_nodes, .ref n_kind, .ref n_pay, .ref n_name, .ref n_ways, .ref n_held, .ref n_targets, .ref n_weights])), (n_kind, .inl (g 0, 12, .inl n_fkind)), (n_pay, .inl (g 0, 12, .inl n_fpay)), (n_ways, .inl (g 0, 12, .inl n_fways)), (n_held, .inl (g 0, 12, .inl n_fheld)), (n_targets, .inl (g 0, 36, .inl n_ftargets)), (n_weights, .inl (g 0, 36, .inl n_fweights)), (vs, .inr (10, [.ref vs_part, .long 1])), (vs_part, .inl (g 1, 12, .inr (.inl f_103727))), (sv_scaled, .inl (g 1, 12, .inr (.inl scf)))] H → va_D A [(sv, .inr (6, [.ref n, .ref co, .ref sv_keep, .ref sv_scaled])), (n, .inr (2, [.int n_nodes, .ref n_kind, .ref n_pay, .ref n_name, .ref n_ways, .ref n_held, .ref n_targets, .ref n_weights])), (n_kind, .inl (g 0, 12, .inl n_fkind)), (n_pay, .inl (g 0, 12, .inl n_fpay)), (n_ways, .inl (g 0, 12, .inl n_fways)), (n_held, .inl (g 0, 12, .inl n_fheld)), (n_targets, .inl (g 0, 36, .inl n_ftargets)), (n_weights, .inl (g 0, 36, .inl n_fweights)), (vs, .inr (10, [.ref vs_part, .long 1])), (vs_part, .inl (g 1, 12, .inr (.inl f_103727))), (sv_scaled, .inl (g 1, 12, .inr (.inl scf)))] → va_S A s.heap H locs → lv_has ls 5 [(3, .int x_103726), (0, .ref sv), (1, .int p0), (2, .ref vs)] → W p l e (headSpec (.code yX6_findWithin cX6_findWithin 5 none :: wsL_law) ({ frames := 3, cells := 0, slots := 0, locals := 75 })).room s m args below meth c H locs 0 0 (MQ below (va_Qv (fun (_ : Unit) => True) (fun _ t => ∃ ovw : Int64, ∃ ovp : Nat → Int64, ∃ osc : Nat → Int64, va_P D vwCl [(sv, .inr (6, [.ref n, .ref co, .ref sv_keep, .ref sv_scaled])), (n, .inr (2, [.int n_nodes, .ref n_kind, .ref n_pay, .ref n_name, .ref n_ways, .ref n_held, .ref n_targets, .ref n_weights])), (n_kind, .inl (g 0, 12, .inl n_fkind)), (n_pay, .inl (g 0, 12, .inl n_fpay)), (n_ways, .inl (g 0, 12, .inl n_fways)), (n_held, .inl (g 0, 12, .inl n_fheld)), (n_targets, .inl (g 0, 36, .inl n_ftargets)), (n_weights, .inl (g 0, 36, .inl n_fweights)), (vs, .inr (10, [.ref vs_part, .long ovw])), (vs_part, .inl (g 1, 12, .inr (.inl ovp))), (sv_scaled, .inl (g 1, 12, .inr (.inl osc)))] t.heap ∧ va_D A [(sv, .inr (6, [.ref n, .ref co, .ref sv_keep, .ref sv_scaled])), (n, .inr (2, [.int n_nodes, .ref n_kind, .ref n_pay, .ref n_name, .ref n_ways, .ref n_held, .ref n_targets, .ref n_weights])), (n_kind, .inl (g 0, 12, .inl n_fkind)), (n_pay, .inl (g 0, 12, .inl n_fpay)), (n_ways, .inl (g 0, 12, .inl n_fways)), (n_held, .inl (g 0, 12, .inl n_fheld)), (n_targets, .inl (g 0, 36, .inl n_ftargets)), (n_weights, .inl (g 0, 36, .inl n_fweights)), (vs, .inr (10, [.ref vs_part, .long ovw])), (vs_part, .inl (g 1, 12, .inr (.inl ovp))), (sv_scaled, .inl (g 1, 12, .inr (.inl osc)))]) A) args s 0 0 A) (F0 m 7 ls []) := by
    intro n_103728
    induction n_103728 with
    | zero =>
      intro x_103726 f_103727 H locs ls h_x_103726 hm_103728 hP hD hS hl
      exfalso; omega
    | succ n_103728 ih_103728 =>
      intro x_103726 f_103727 H locs ls h_x_103726 hm_103728 hP hD hS hl
      refine lv_iload_n hx hb dX6_findWithin_7 rfl (lv_at hl 0 rfl) ?_
      refine lv_aload_n hx hb dX6_findWithin_8 rfl (lv_at hl 1 rfl) ?_
      refine va_get (D := D) (ci := 6) (v := .ref n) (C := RX6) (T := TX6) (N := 4) hx hb hts inlX6 hown hK hP 0 rfl rfl 0 (by decide) (hts (Cond.fieldLink RX6 19 "ChanceRings$Solver" "net" "LChanceRings$Net;") qw_548) (fun _ h9 => h9) rfl dX6_findWithin_9 ?_
      refine va_get (D := D) (ci := 2) (v := .int n_nodes) (C := RX2) (T := TX2) (N := 8) hx hb hts inlX2 hown hK hP 1 rfl rfl 0 (by decide) (hts (Cond.fieldLink RX6 32 "ChanceRings$Net" "nodes" "I") qw_549) (fun _ h9 => h9) rfl dX6_findWithin_12 ?_
      refine lv_icmp_ge (tgt := 56) hx hb dX6_findWithin_15 (by decide) (fun c_103729 => ?_) (fun c_103729 => ?_)
      · skip
        refine lv_iconst (v := 0) hx hb dX6_findWithin_56 (by decide) ?_
        refine lv_istore_n (lv' := [(3, .int 0), (0, .ref sv), (1, .int p0), (2, .ref vs)]) hx hb dX6_findWithin_57 rfl hl (by decide) rfl (fun ls hl => ?_)
        have lp_104341 : ∀ (n_104341 : Nat) (x_104337 : Int32) (x_104338 : Int64) (f_104339 : Nat → Int64) (f_104340 : Nat → Int64) (H : Heap) (locs : List Loc) (ls : Array Slot), (0 ≤ (x_104337 : Int32).toInt ∧ (x_104337 : Int32).toInt ≤ 8) → (8 - x_104337.toInt < (n_104341 : Int)) → va_P D vwCl [(sv, .inr (6, [.ref n, .ref co, .ref sv_keep, .ref sv_scaled])), (n, .inr (2, [.int n_nodes, .ref n_kind, .ref n_pay, .ref n_name, .ref n_ways, .ref n_held, .ref n_targets, .ref n_weights])), (n_kind, .inl (g 0, 12, .inl n_fkind)), (n_pay, .inl (g 0, 12, .inl n_fpay)), (n_ways, .inl (g 0, 12, .inl n_fways)), (n_held, .inl (g 0, 12, .inl n_fheld)), (n_targets, .inl (g 0, 36, .inl n_ftargets)), (n_weights, .inl (g 0, 36, .inl n_fweights)), (vs, .inr (10, [.ref vs_part, .long x_104338])), (vs_part, .inl (g 1, 12, .inr (.inl f_104339))), (sv_scaled, .inl (g 1, 12, .inr (.inl f_104340)))] H → va_D A [(sv, .inr (6, [.ref n, .ref co, .ref sv_keep, .ref sv_scaled])), (n, .inr (2, [.int n_nodes, .ref n_kind, .ref n_pay, .ref n_name, .ref n_ways, .ref n_held, .ref n_targets, .ref n_weights])), (n_kind, .inl (g 0, 12, .inl n_fkind)), (n_pay, .inl (g 0, 12, .inl n_fpay)), (n_ways, .inl (g 0, 12, .inl n_fways)), (n_held, .inl (g 0, 12, .inl n_fheld)), (n_targets, .inl (g 0, 36, .inl n_ftargets)), (n_weights, .inl (g 0, 36, .inl n_fweights)), (vs, .inr (10, [.ref vs_part, .long x_104338])), (vs_part, .inl (g 1, 12, .inr (.inl f_104339))), (sv_scaled, .inl (g 1, 12, .inr (.inl f_104340)))] → va_S A s.heap H locs → lv_has ls 5 [(3, .int x_104337), (0, .ref sv), (1, .int p0), (2, .ref vs)] → W p l e (headSpec (.code yX6_findWithin cX6_findWithin 5 none :: wsL_law) ({ frames := 3, cells := 0, slots := 0, locals := 75 })).room s m args below meth c H locs 0 0 (MQ below (va_Qv (fun (_ : Unit) => True) (fun _ t => ∃ ovw : Int64, ∃ ovp : Nat → Int64, ∃ osc : Nat → Int64, va_P D vwCl [(sv, .inr (6, [.ref n, .ref co, .ref sv_keep, .ref sv_scaled])), (n, .inr (2, [.int n_nodes, .ref n_kind, .ref n_pay, .ref n_name, .ref n_ways, .ref n_held, .ref n_targets, .ref n_weights])), (n_kind, .inl (g 0, 12, .inl n_fkind)), (n_pay, .inl (g 0, 12, .inl n_fpay)), (n_ways, .inl (g 0, 12, .inl n_fways)), (n_held, .inl (g 0, 12, .inl n_fheld)), (n_targets, .inl (g 0, 36, .inl n_ftargets)), (n_weights, .inl (g 0, 36, .inl n_fweights)), (vs, .inr (10, [.ref vs_part, .long ovw])), (vs_part, .inl (g 1, 12, .inr (.inl ovp))), (sv_scaled, .inl (g 1, 12, .inr (.inl osc)))] t.heap ∧ va_D A [(sv, .inr (6, [.ref n, .ref co, .ref sv_keep, .ref sv_scaled])), (n, .inr (2, [.int n_nodes, .ref n_kind, .ref n_pay, .ref n_name, .ref n_ways, .ref n_held, .ref n_targets, .ref n_weights])), (n_kind, .inl (g 0, 12, .inl n_fkind)), (n_pay, .inl (g 0, 12, .inl n_fpay)), (n_ways, .inl (g 0, 12, .inl n_fways)), (n_held, .inl (g 0, 12, .inl n_fheld)), (n_targets, .inl (g 0, 36, .inl n_ftargets)), (n_weights, .inl (g 0, 36, .inl n_fweights)), (vs, .inr (10, [.ref vs_part, .long ovw])), (vs_part, .inl (g 1, 12, .inr (.inl ovp))), (sv_scaled, .inl (g 1, 12, .inr (.inl osc)))]) A) args s 0 0 A) (F0 m 58 ls []) := by
          intro n_104341
          induction n_104341 with
          | zero =>
            intro x_104337 x_104338 f_104339 f_104340 H locs ls h_x_104337 hm_104341 hP hD hS hl
            exfalso; omega
          | succ n_104341 ih_104341 =>
            intro x_104337 x_104338 f_104339 f_104340 H locs ls h_x_104337 hm_104341 hP hD hS hl
            refine lv_iload_n hx hb dX6_findWithin_58 rfl (lv_at hl 0 rfl) ?_
            refine lv_iload_n hx hb dX6_findWithin_59 rfl (lv_at hl 2 rfl) ?_
            refine lv_icmp_ge (tgt := 131) hx hb dX6_findWithin_60 (by decide) (fun c_104342 => ?_) (fun c_104342 => ?_)
            · skip
              have hP9 := hP.sub (ws' := [(sv, .inr (6, [.ref n, .ref co, .ref sv_keep, .ref sv_scaled])), (n, .inr (2, [.int n_nodes, .ref n_kind, .ref n_pay, .ref n_name, .ref n_ways, .ref n_held, .ref n_targets, .ref n_weights])), (n_kind, .inl (g 0, 12, .inl n_fkind)), (n_pay, .inl (g 0, 12, .inl n_fpay)), (n_ways, .inl (g 0, 12, .inl n_fways)), (n_held, .inl (g 0, 12, .inl n_fheld)), (n_targets, .inl (g 0, 36, .inl n_ftargets)), (n_weights, .inl (g 0, 36, .inl n_fweights)), (vs, .inr (10, [.ref vs_part, .long x_104338])), (vs_part, .inl (g 1, 12, .inr (.inl f_104339))), (sv_scaled, .inl (g 1, 12, .inr (.inl f_104340)))]) [0, 1, 2, 3, 4, 5, 6, 7, 8, 9, 10] rfl
              have hD9 := hD.sub (ws' := [(sv, .inr (6, [.ref n, .ref co, .ref sv_keep, .ref sv_scaled])), (n, .inr (2, [.int n_nodes, .ref n_kind, .ref n_pay, .ref n_name, .ref n_ways, .ref n_held, .ref n_targets, .ref n_weights])), (n_kind, .inl (g 0, 12, .inl n_fkind)), (n_pay, .inl (g 0, 12, .inl n_fpay)), (n_ways, .inl (g 0, 12, .inl n_fways)), (n_held, .inl (g 0, 12, .inl n_fheld)), (n_targets, .inl (g 0, 36, .inl n_ftargets)), (n_weights, .inl (g 0, 36, .inl n_fweights)), (vs, .inr (10, [.ref vs_part, .long x_104338])), (vs_part, .inl (g 1, 12, .inr (.inl f_104339))), (sv_scaled, .inl (g 1, 12, .inr (.inl f_104340)))]) [0, 1, 2, 3, 4, 5, 6, 7, 8, 9, 10] (by decide) rfl
              exact W.vret hx hb hr (fun t ht hW => ⟨⟨(), rfl, trivial, x_104338, f_104339, f_104340, by rw [ht]; exact hP9, hD9⟩, hS.F ht⟩) hS.2.2 dX6_findWithin_131
            · skip
              have c_104342_i := Int32.lt_iff_toInt_lt.mp (Int32.not_le.mp c_104342)
              have h_104343 : 0 ≤ (x_104337 : Int32).toInt ∧ (x_104337 : Int32).toInt ≤ 7 := by have q1 := h_x_104337; have q2 := h_p0; omega
              have h_104344 : 1 ≤ (p0 : Int32).toInt ∧ (p0 : Int32).toInt ≤ 8 := by have q1 := h_x_104337; have q2 := h_p0; omega
              refine lv_iconst (v := 0) hx hb dX6_findWithin_63 (by decide) ?_
              refine lv_istore (lv' := [(4, .int 0), (3, .int x_104337), (0, .ref sv), (1, .int p0), (2, .ref vs)]) hx hb dX6_findWithin_64 hl (by decide) rfl (fun ls hl => ?_)
              have lp_104432 : ∀ (n_104432 : Nat) (x_104430 : Int32) (f_104431 : Nat → Int64) (H : Heap) (locs : List Loc) (ls : Array Slot), (0 ≤ (x_104430 : Int32).toInt ∧ (x_104430 : Int32).toInt ≤ 12) → (12 - x_104430.toInt < (n_104432 : Int)) → va_P D vwCl [(sv, .inr (6, [.ref n, .ref co, .ref sv_keep, .ref sv_scaled])), (n, .inr (2, [.int n_nodes, .ref n_kind, .ref n_pay, .ref n_name, .ref n_ways, .ref n_held, .ref n_targets, .ref n_weights])), (n_kind, .inl (g 0, 12, .inl n_fkind)), (n_pay, .inl (g 0, 12, .inl n_fpay)), (n_ways, .inl (g 0, 12, .inl n_fways)), (n_held, .inl (g 0, 12, .inl n_fheld)), (n_targets, .inl (g 0, 36, .inl n_ftargets)), (n_weights, .inl (g 0, 36, .inl n_fweights)), (vs, .inr (10, [.ref vs_part, .long x_104338])), (vs_part, .inl (g 1, 12, .inr (.inl f_104339))), (sv_scaled, .inl (g 1, 12, .inr (.inl f_104431)))] H → va_D A [(sv, .inr (6, [.ref n, .ref co, .ref sv_keep, .ref sv_scaled])), (n, .inr (2, [.int n_nodes, .ref n_kind, .ref n_pay, .ref n_name, .ref n_ways, .ref n_held, .ref n_targets, .ref n_weights])), (n_kind, .inl (g 0, 12, .inl n_fkind)), (n_pay, .inl (g 0, 12, .inl n_fpay)), (n_ways, .inl (g 0, 12, .inl n_fways)), (n_held, .inl (g 0, 12, .inl n_fheld)), (n_targets, .inl (g 0, 36, .inl n_ftargets)), (n_weights, .inl (g 0, 36, .inl n_fweights)), (vs, .inr (10, [.ref vs_part, .long x_104338])), (vs_part, .inl (g 1, 12, .inr (.inl f_104339))), (sv_scaled, .inl (g 1, 12, .inr (.inl f_104431)))] → va_S A s.heap H locs → lv_has ls 5 [(4, .int x_104430), (3, .int x_104337), (0, .ref sv), (1, .int p0), (2, .ref vs)] → W p l e (headSpec (.code yX6_findWithin cX6_findWithin 5 none :: wsL_law) ({ frames := 3, cells := 0, slots := 0, locals := 75 })).room s m args below meth c H locs 0 0 (MQ below (va_Qv (fun (_ : Unit) => True) (fun _ t => ∃ ovw : Int64, ∃ ovp : Nat → Int64, ∃ osc : Nat → Int64, va_P D vwCl [(sv, .inr (6, [.ref n, .ref co, .ref sv_keep, .ref sv_scaled])), (n, .inr (2, [.int n_nodes, .ref n_kind, .ref n_pay, .ref n_name, .ref n_ways, .ref n_held, .ref n_targets, .ref n_weights])), (n_kind, .inl (g 0, 12, .inl n_fkind)), (n_pay, .inl (g 0, 12, .inl n_fpay)), (n_ways, .inl (g 0, 12, .inl n_fways)), (n_held, .inl (g 0, 12, .inl n_fheld)), (n_targets, .inl (g 0, 36, .inl n_ftargets)), (n_weights, .inl (g 0, 36, .inl n_fweights)), (vs, .inr (10, [.ref vs_part, .long ovw])), (vs_part, .inl (g 1, 12, .inr (.inl ovp))), (sv_scaled, .inl (g 1, 12, .inr (.inl osc)))] t.heap ∧ va_D A [(sv, .inr (6, [.ref n, .ref co, .ref sv_keep, .ref sv_scaled])), (n, .inr (2, [.int n_nodes, .ref n_kind, .ref n_pay, .ref n_name, .ref n_ways, .ref n_held, .ref n_targets, .ref n_weights])), (n_kind, .inl (g 0, 12, .inl n_fkind)), (n_pay, .inl (g 0, 12, .inl n_fpay)), (n_ways, .inl (g 0, 12, .inl n_fways)), (n_held, .inl (g 0, 12, .inl n_fheld)), (n_targets, .inl (g 0, 36, .inl n_ftargets)), (n_weights, .inl (g 0, 36, .inl n_fweights)), (vs, .inr (10, [.ref vs_part, .long ovw])), (vs_part, .inl (g 1, 12, .inr (.inl ovp))), (sv_scaled, .inl (g 1, 12, .inr (.inl osc)))]) A) args s 0 0 A) (F0 m 66 ls []) := by
                intro n_104432
                induction n_104432 with
                | zero =>
                  intro x_104430 f_104431 H locs ls h_x_104430 hm_104432 hP hD hS hl
                  exfalso; omega
                | succ n_104432 ih_104432 =>
                  intro x_104430 f_104431 H locs ls h_x_104430 hm_104432 hP hD hS hl
                  refine lv_iload hx hb dX6_findWithin_66 (lv_at hl 0 rfl) ?_
                  refine lv_aload_n hx hb dX6_findWithin_68 rfl (lv_at hl 2 rfl) ?_
                  refine va_get (D := D) (ci := 6) (v := .ref n) (C := RX6) (T := TX6) (N := 4) hx hb hts inlX6 hown hK hP 0 rfl rfl 0 (by decide) (hts (Cond.fieldLink RX6 19 "ChanceRings$Solver" "net" "LChanceRings$Net;") qw_548) (fun _ h9 => h9) rfl dX6_findWithin_69 ?_
                  refine va_get (D := D) (ci := 2) (v := .int n_nodes) (C := RX2) (T := TX2) (N := 8) hx hb hts inlX2 hown hK hP 1 rfl rfl 0 (by decide) (hts (Cond.fieldLink RX6 32 "ChanceRings$Net" "nodes" "I") qw_549) (fun _ h9 => h9) rfl dX6_findWithin_72 ?_
                  refine lv_icmp_ge (tgt := 98) hx hb dX6_findWithin_75 (by decide) (fun c_104433 => ?_) (fun c_104433 => ?_)
                  · skip
                    refine lv_aload_n hx hb dX6_findWithin_98 rfl (lv_at hl 2 rfl) ?_
                    refine va_get (D := D) (ci := 6) (v := .ref sv_scaled) (C := RX6) (T := TX6) (N := 4) hx hb hts inlX6 hown hK hP 0 rfl rfl 3 (by decide) (hts (Cond.fieldLink RX6 15 "ChanceRings$Solver" "scaled" "[J") qw_612) (fun _ h9 => h9) rfl dX6_findWithin_99 ?_
                    refine lv_iconst (v := 0) hx hb dX6_findWithin_102 (by decide) ?_
                    refine lv_aload_n hx hb dX6_findWithin_103 rfl (lv_at hl 4 rfl) ?_
                    refine va_get (D := D) (ci := 10) (v := .ref vs_part) (C := RX10) (T := TX10) (N := 2) hx hb hts inlX10 hown hK hP 8 rfl rfl 0 (by decide) (hts (Cond.fieldLink RX6 71 "ChanceRings$Values" "part" "[J") qw_553) (fun _ h9 => h9) rfl dX6_findWithin_104 ?_
                    refine lv_iconst (v := 0) hx hb dX6_findWithin_107 (by decide) ?_
                    refine lv_bipush (v := 12) hx hb dX6_findWithin_108 (by decide) ?_
                    refine va_copyl (ty := .long) hx hb (by rw [hml]; exact hl.1.symm) hown (hts (Cond.methodLink RX6 103 arraycopyName) qw_613) (hts (Cond.native arraycopyName) qw_343) (hts (Cond.static arraycopyName) qw_344) (hts (Cond.initialized "java/lang/System") qw_345) hK hP hD hS 10 9 1 1 rfl rfl rfl rfl rfl (by decide) (by decide) (by decide) (by decide +kernel) (by decide +kernel) (fun _ _ => rfl) (Nat.le_of_ble_eq_true rfl) (Nat.le_of_ble_eq_true rfl) dX6_findWithin_110 (fun H locs hP hD hS => ?_)
                    obtain ⟨f_104436, hP, hD⟩ : ∃ FX : Nat → Int64, va_P D vwCl [(sv, .inr (6, [.ref n, .ref co, .ref sv_keep, .ref sv_scaled])), (n, .inr (2, [.int n_nodes, .ref n_kind, .ref n_pay, .ref n_name, .ref n_ways, .ref n_held, .ref n_targets, .ref n_weights])), (n_kind, .inl (g 0, 12, .inl n_fkind)), (n_pay, .inl (g 0, 12, .inl n_fpay)), (n_ways, .inl (g 0, 12, .inl n_fways)), (n_held, .inl (g 0, 12, .inl n_fheld)), (n_targets, .inl (g 0, 36, .inl n_ftargets)), (n_weights, .inl (g 0, 36, .inl n_fweights)), (vs, .inr (10, [.ref vs_part, .long x_104338])), (vs_part, .inl (g 1, 12, .inr (.inl FX))), (sv_scaled, .inl (g 1, 12, .inr (.inl f_104431)))] H ∧ va_D A [(sv, .inr (6, [.ref n, .ref co, .ref sv_keep, .ref sv_scaled])), (n, .inr (2, [.int n_nodes, .ref n_kind, .ref n_pay, .ref n_name, .ref n_ways, .ref n_held, .ref n_targets, .ref n_weights])), (n_kind, .inl (g 0, 12, .inl n_fkind)), (n_pay, .inl (g 0, 12, .inl n_fpay)), (n_ways, .inl (g 0, 12, .inl n_fways)), (n_held, .inl (g 0, 12, .inl n_fheld)), (n_targets, .inl (g 0, 36, .inl n_ftargets)), (n_weights, .inl (g 0, 36, .inl n_fweights)), (vs, .inr (10, [.ref vs_part, .long x_104338])), (vs_part, .inl (g 1, 12, .inr (.inl FX))), (sv_scaled, .inl (g 1, 12, .inr (.inl f_104431)))] := ⟨_, hP, hD⟩
                    have hP : va_P D vwCl [(sv, .inr (6, [.ref n, .ref co, .ref sv_keep, .ref sv_scaled])), (n, .inr (2, [.int n_nodes, .ref n_kind, .ref n_pay, .ref n_name, .ref n_ways, .ref n_held, .ref n_targets, .ref n_weights])), (n_kind, .inl (g 0, 12, .inl n_fkind)), (n_pay, .inl (g 0, 12, .inl n_fpay)), (n_ways, .inl (g 0, 12, .inl n_fways)), (n_held, .inl (g 0, 12, .inl n_fheld)), (n_targets, .inl (g 0, 36, .inl n_ftargets)), (n_weights, .inl (g 0, 36, .inl n_fweights)), (vs, .inr (10, [.ref vs_part, .long x_104338])), (vs_part, .inl (g 1, 12, .inr (.inl f_104436))), (sv_scaled, .inl (g 1, 12, .inr (.inl f_104431)))] H := hP
                    have hD : va_D A [(sv, .inr (6, [.ref n, .ref co, .ref sv_keep, .ref sv_scaled])), (n, .inr (2, [.int n_nodes, .ref n_kind, .ref n_pay, .ref n_name, .ref n_ways, .ref n_held, .ref n_targets, .ref n_weights])), (n_kind, .inl (g 0, 12, .inl n_fkind)), (n_pay, .inl (g 0, 12, .inl n_fpay)), (n_ways, .inl (g 0, 12, .inl n_fways)), (n_held, .inl (g 0, 12, .inl n_fheld)), (n_targets, .inl (g 0, 36, .inl n_ftargets)), (n_weights, .inl (g 0, 36, .inl n_fweights)), (vs, .inr (10, [.ref vs_part, .long x_104338])), (vs_part, .inl (g 1, 12, .inr (.inl f_104436))), (sv_scaled, .inl (g 1, 12, .inr (.inl f_104431)))] := hD
                    refine lv_aload_n hx hb dX6_findWithin_113 rfl (lv_at hl 4 rfl) ?_
                    refine lv_dup hx hb dX6_findWithin_114 rfl ?_
                    refine va_get (D := D) (ci := 10) (v := .long x_104338) (C := RX10) (T := TX10) (N := 2) hx hb hts inlX10 hown hK hP 8 rfl rfl 1 (by decide) (hts (Cond.fieldLink RX6 92 "ChanceRings$Values" "whole" "J") qw_611) (fun _ h9 => h9) rfl dX6_findWithin_115 ?_
                    refine lv_ldc2 (v := 12) hx hb hown (hts (Cond.constantLong RX6 109 (12)) qw_610) dX6_findWithin_118 ?_
                    refine lv_lmul hx hb dX6_findWithin_121 ?_
                    refine lv_topl (fun w_104437 _ => ?_)
                    refine va_put (D := D) (ci := 10) (v := .long w_104437) (ty := .long) (C := RX10) (T := TX10) (N := 2) hx hb hts inlX10 tyX10 tyX10_ok nmX10 hown hK hP hD hS 8 rfl rfl 1 (by decide) (hts (Cond.fieldLink RX6 92 "ChanceRings$Values" "whole" "J") qw_611) (fun _ h9 => h9) rfl (by decide +kernel) rfl rfl (Nat.le_of_ble_eq_true rfl) dX6_findWithin_122 (fun H locs hP hD hS => ?_)
                    have hP : va_P D vwCl [(sv, .inr (6, [.ref n, .ref co, .ref sv_keep, .ref sv_scaled])), (n, .inr (2, [.int n_nodes, .ref n_kind, .ref n_pay, .ref n_name, .ref n_ways, .ref n_held, .ref n_targets, .ref n_weights])), (n_kind, .inl (g 0, 12, .inl n_fkind)), (n_pay, .inl (g 0, 12, .inl n_fpay)), (n_ways, .inl (g 0, 12, .inl n_fways)), (n_held, .inl (g 0, 12, .inl n_fheld)), (n_targets, .inl (g 0, 36, .inl n_ftargets)), (n_weights, .inl (g 0, 36, .inl n_fweights)), (vs, .inr (10, [.ref vs_part, .long w_104437])), (vs_part, .inl (g 1, 12, .inr (.inl f_104436))), (sv_scaled, .inl (g 1, 12, .inr (.inl f_104431)))] H := hP
                    have hD : va_D A [(sv, .inr (6, [.ref n, .ref co, .ref sv_keep, .ref sv_scaled])), (n, .inr (2, [.int n_nodes, .ref n_kind, .ref n_pay, .ref n_name, .ref n_ways, .ref n_held, .ref n_targets, .ref n_weights])), (n_kind, .inl (g 0, 12, .inl n_fkind)), (n_pay, .inl (g 0, 12, .inl n_fpay)), (n_ways, .inl (g 0, 12, .inl n_fways)), (n_held, .inl (g 0, 12, .inl n_fheld)), (n_targets, .inl (g 0, 36, .inl n_ftargets)), (n_weights, .inl (g 0, 36, .inl n_fweights)), (vs, .inr (10, [.ref vs_part, .long w_104437])), (vs_part, .inl (g 1, 12, .inr (.inl f_104436))), (sv_scaled, .inl (g 1, 12, .inr (.inl f_104431)))] := hD
                    obtain ⟨v_104438, v_104438_e⟩ : ∃ y : Int32, y = x_104337 + Int32.ofInt 1 := ⟨_, rfl⟩
                    have h_v_104438 : 1 ≤ (v_104438 : Int32).toInt ∧ (v_104438 : Int32).toInt ≤ 8 := by rw [v_104438_e]; exact tr_add h_104343 (⟨by decide, by decide⟩ : 1 ≤ (Int32.ofInt 1 : Int32).toInt ∧ (Int32.ofInt 1 : Int32).toInt ≤ 1) (by decide) (by decide) (by decide) (by decide)
                    have q_v_104438 : v_104438.toInt = x_104337.toInt + 1 := by rw [v_104438_e]; exact tr_addE h_104343 (⟨by decide, by decide⟩ : 1 ≤ (Int32.ofInt 1 : Int32).toInt ∧ (Int32.ofInt 1 : Int32).toInt ≤ 1) (by decide) (by decide)
                    refine lv_iinc (v := v_104438) (lv' := [(3, .int v_104438), (4, .int x_104430), (0, .ref sv), (1, .int p0), (2, .ref vs)]) hx hb dX6_findWithin_125 hl (k := 1) rfl v_104438_e.symm (by decide) rfl (fun ls hl => ?_)
                    refine lv_goto (tgt := 58) hx hb dX6_findWithin_128 (by decide) ?_
                    exact ih_104341 v_104438 w_104437 f_104436 f_104431 H _ ls (tr_w h_v_104438 (by decide) (by decide)) (by omega) (hP.sub [0, 1, 2, 3, 4, 5, 6, 7, 8, 9, 10] rfl) (hD.sub [0, 1, 2, 3, 4, 5, 6, 7, 8, 9, 10] (by decide) rfl) hS (lv_sub hl [0, 2, 3, 4] rfl)
                  · skip
                    have c_104433_i := Int32.lt_iff_toInt_lt.mp (Int32.not_le.mp c_104433)
                    have h_104434 : 0 ≤ (x_104430 : Int32).toInt ∧ (x_104430 : Int32).toInt ≤ 11 := by have q1 := h_x_104430; have q2 := h_n_nodes; omega
                    have h_104435 : 1 ≤ (n_nodes : Int32).toInt ∧ (n_nodes : Int32).toInt ≤ 12 := by have q1 := h_x_104430; have q2 := h_n_nodes; omega
                    refine lv_aload_n hx hb dX6_findWithin_78 rfl (lv_at hl 2 rfl) ?_
                    refine va_get (D := D) (ci := 6) (v := .ref sv_scaled) (C := RX6) (T := TX6) (N := 4) hx hb hts inlX6 hown hK hP 0 rfl rfl 3 (by decide) (hts (Cond.fieldLink RX6 15 "ChanceRings$Solver" "scaled" "[J") qw_612) (fun _ h9 => h9) rfl dX6_findWithin_79 ?_
                    refine lv_iload hx hb dX6_findWithin_82 (lv_at hl 0 rfl) ?_
                    refine lv_aload_n hx hb dX6_findWithin_84 rfl (lv_at hl 2 rfl) ?_
                    refine lv_iload hx hb dX6_findWithin_85 (lv_at hl 0 rfl) ?_
                    refine lv_aload_n hx hb dX6_findWithin_87 rfl (lv_at hl 4 rfl) ?_
                    have hPc := hP.sub (ws' := [(sv, .inr (6, [.ref n, .ref co, .ref sv_keep, .ref sv_scaled])), (n, .inr (2, [.int n_nodes, .ref n_kind, .ref n_pay, .ref n_name, .ref n_ways, .ref n_held, .ref n_targets, .ref n_weights])), (n_kind, .inl (g 0, 12, .inl n_fkind)), (n_ways, .inl (g 0, 12, .inl n_fways)), (n_held, .inl (g 0, 12, .inl n_fheld)), (n_targets, .inl (g 0, 36, .inl n_ftargets)), (n_weights, .inl (g 0, 36, .inl n_fweights)), (vs, .inr (10, [.ref vs_part, .long x_104338])), (vs_part, .inl (g 1, 12, .inr (.inl f_104339)))]) [0, 1, 2, 4, 5, 6, 7, 8, 9] rfl
                    refine vp_callSl (va_Run.run (va_runV (As := [.int x_104430, .ref vs]) (rest := [.int x_104430, .ref sv_scaled]) ⟨hx, hb, hml, hown, hts⟩ (c_X6_oneMoveMore l D g sv x_104430 vs n co sv_keep sv_scaled n_nodes n_kind n_pay n_name n_ways n_held n_targets n_weights n_fkind n_fways n_fheld n_ftargets n_fweights vs_part x_104338 f_104339 (tr_w h_104434 (by decide) (by decide)) (tr_w h_104435 (by decide) (by decide)) (tr_wa h_n_fkind (by decide) (by decide)) (tr_wa h_n_fways (by decide) (by decide)) (tr_wa h_n_fheld (by decide) (by decide)) (tr_wa h_n_ftargets (by decide) (by decide))) (cwV 2 hts (tz_gV qw_615 qw_616 qw_617 qw_558 qw_618) rfl rfl rfl (by decide +kernel) ⟨Nat.le_of_ble_eq_true rfl, Nat.le_of_ble_eq_true rfl⟩) ⟨tz_blS, va_recv hK hPc (ci := 6) (q0 := 0) rfl rfl, tz_preS hPc hK⟩ rfl rfl hl.1 rfl (lv_room (Nat.le_of_ble_eq_true rfl)) dX6_findWithin_88 ⟨Nat.le_of_ble_eq_true rfl, Nat.le_of_ble_eq_true rfl⟩)) (fun r_104439 hw => ?_)
                    refine va_last hx hb hK hP hD hS 10 1 rfl rfl (tr_in h_104434 (by decide) (by decide)) dX6_findWithin_91 (fun H locs hP hD hS => ?_)
                    obtain ⟨f_104440, hP, hD⟩ : ∃ FX : Nat → Int64, va_P D vwCl [(sv, .inr (6, [.ref n, .ref co, .ref sv_keep, .ref sv_scaled])), (n, .inr (2, [.int n_nodes, .ref n_kind, .ref n_pay, .ref n_name, .ref n_ways, .ref n_held, .ref n_targets, .ref n_weights])), (n_kind, .inl (g 0, 12, .inl n_fkind)), (n_pay, .inl (g 0, 12, .inl n_fpay)), (n_ways, .inl (g 0, 12, .inl n_fways)), (n_held, .inl (g 0, 12, .inl n_fheld)), (n_targets, .inl (g 0, 36, .inl n_ftargets)), (n_weights, .inl (g 0, 36, .inl n_fweights)), (vs, .inr (10, [.ref vs_part, .long x_104338])), (vs_part, .inl (g 1, 12, .inr (.inl f_104339))), (sv_scaled, .inl (g 1, 12, .inr (.inl FX)))] H ∧ va_D A [(sv, .inr (6, [.ref n, .ref co, .ref sv_keep, .ref sv_scaled])), (n, .inr (2, [.int n_nodes, .ref n_kind, .ref n_pay, .ref n_name, .ref n_ways, .ref n_held, .ref n_targets, .ref n_weights])), (n_kind, .inl (g 0, 12, .inl n_fkind)), (n_pay, .inl (g 0, 12, .inl n_fpay)), (n_ways, .inl (g 0, 12, .inl n_fways)), (n_held, .inl (g 0, 12, .inl n_fheld)), (n_targets, .inl (g 0, 36, .inl n_ftargets)), (n_weights, .inl (g 0, 36, .inl n_fweights)), (vs, .inr (10, [.ref vs_part, .long x_104338])), (vs_part, .inl (g 1, 12, .inr (.inl f_104339))), (sv_scaled, .inl (g 1, 12, .inr (.inl FX)))] := ⟨_, hP, hD⟩
                    have hP : va_P D vwCl [(sv, .inr (6, [.ref n, .ref co, .ref sv_keep, .ref sv_scaled])), (n, .inr (2, [.int n_nodes, .ref n_kind, .ref n_pay, .ref n_name, .ref n_ways, .ref n_held, .ref n_targets, .ref n_weights])), (n_kind, .inl (g 0, 12, .inl n_fkind)), (n_pay, .inl (g 0, 12, .inl n_fpay)), (n_ways, .inl (g 0, 12, .inl n_fways)), (n_held, .inl (g 0, 12, .inl n_fheld)), (n_targets, .inl (g 0, 36, .inl n_ftargets)), (n_weights, .inl (g 0, 36, .inl n_fweights)), (vs, .inr (10, [.ref vs_part, .long x_104338])), (vs_part, .inl (g 1, 12, .inr (.inl f_104339))), (sv_scaled, .inl (g 1, 12, .inr (.inl f_104440)))] H := hP
                    have hD : va_D A [(sv, .inr (6, [.ref n, .ref co, .ref sv_keep, .ref sv_scaled])), (n, .inr (2, [.int n_nodes, .ref n_kind, .ref n_pay, .ref n_name, .ref n_ways, .ref n_held, .ref n_targets, .ref n_weights])), (n_kind, .inl (g 0, 12, .inl n_fkind)), (n_pay, .inl (g 0, 12, .inl n_fpay)), (n_ways, .inl (g 0, 12, .inl n_fways)), (n_held, .inl (g 0, 12, .inl n_fheld)), (n_targets, .inl (g 0, 36, .inl n_ftargets)), (n_weights, .inl (g 0, 36, .inl n_fweights)), (vs, .inr (10, [.ref vs_part, .long x_104338])), (vs_part, .inl (g 1, 12, .inr (.inl f_104339))), (sv_scaled, .inl (g 1, 12, .inr (.inl f_104440)))] := hD
                    obtain ⟨v_104441, v_104441_e⟩ : ∃ y : Int32, y = x_104430 + Int32.ofInt 1 := ⟨_, rfl⟩
                    have h_v_104441 : 1 ≤ (v_104441 : Int32).toInt ∧ (v_104441 : Int32).toInt ≤ 12 := by rw [v_104441_e]; exact tr_add h_104434 (⟨by decide, by decide⟩ : 1 ≤ (Int32.ofInt 1 : Int32).toInt ∧ (Int32.ofInt 1 : Int32).toInt ≤ 1) (by decide) (by decide) (by decide) (by decide)
                    have q_v_104441 : v_104441.toInt = x_104430.toInt + 1 := by rw [v_104441_e]; exact tr_addE h_104434 (⟨by decide, by decide⟩ : 1 ≤ (Int32.ofInt 1 : Int32).toInt ∧ (Int32.ofInt 1 : Int32).toInt ≤ 1) (by decide) (by decide)
                    refine lv_iinc (v := v_104441) (lv' := [(4, .int v_104441), (3, .int x_104337), (0, .ref sv), (1, .int p0), (2, .ref vs)]) hx hb dX6_findWithin_92 hl (k := 0) rfl v_104441_e.symm (by decide) rfl (fun ls hl => ?_)
                    refine lv_goto (tgt := 66) hx hb dX6_findWithin_95 (by decide) ?_
                    exact ih_104432 v_104441 f_104440 H _ ls (tr_w h_v_104441 (by decide) (by decide)) (by omega) (hP.sub [0, 1, 2, 3, 4, 5, 6, 7, 8, 9, 10] rfl) (hD.sub [0, 1, 2, 3, 4, 5, 6, 7, 8, 9, 10] (by decide) rfl) hS (lv_sub hl [0, 1, 2, 3, 4] rfl)
              exact lp_104432 13 0 f_104340 H _ ls (⟨by decide, by decide⟩ : 0 ≤ (0 : Int32).toInt ∧ (0 : Int32).toInt ≤ 12) (by decide) (hP.sub [0, 1, 2, 3, 4, 5, 6, 7, 8, 9, 10] rfl) (hD.sub [0, 1, 2, 3, 4, 5, 6, 7, 8, 9, 10] (by decide) rfl) hS (lv_sub hl [0, 1, 2, 3, 4] rfl)
        exact lp_104341 9 0 1 f_103727 scf H _ ls (⟨by decide, by decide⟩ : 0 ≤ (0 : Int32).toInt ∧ (0 : Int32).toInt ≤ 8) (by decide) (hP.sub [0, 1, 2, 3, 4, 5, 6, 7, 8, 9, 10] rfl) (hD.sub [0, 1, 2, 3, 4, 5, 6, 7, 8, 9, 10] (by decide) rfl) hS (lv_sub hl [0, 1, 2, 3] rfl)
      · skip
        have c_103729_i := Int32.lt_iff_toInt_lt.mp (Int32.not_le.mp c_103729)
        have h_103730 : 0 ≤ (x_103726 : Int32).toInt ∧ (x_103726 : Int32).toInt ≤ 11 := by have q1 := h_x_103726; have q2 := h_n_nodes; omega
        have h_103731 : 1 ≤ (n_nodes : Int32).toInt ∧ (n_nodes : Int32).toInt ≤ 12 := by have q1 := h_x_103726; have q2 := h_n_nodes; omega
        refine lv_aload_n hx hb dX6_findWithin_18 rfl (lv_at hl 3 rfl) ?_
        refine va_get (D := D) (ci := 10) (v := .ref vs_part) (C := RX10) (T := TX10) (N := 2) hx hb hts inlX10 hown hK hP 8 rfl rfl 0 (by decide) (hts (Cond.fieldLink RX6 71 "ChanceRings$Values" "part" "[J") qw_553) (fun _ h9 => h9) rfl dX6_findWithin_19 ?_
        refine lv_iload_n hx hb dX6_findWithin_22 rfl (lv_at hl 0 rfl) ?_
        refine lv_aload_n hx hb dX6_findWithin_23 rfl (lv_at hl 1 rfl) ?_
        refine va_get (D := D) (ci := 6) (v := .ref n) (C := RX6) (T := TX6) (N := 4) hx hb hts inlX6 hown hK hP 0 rfl rfl 0 (by decide) (hts (Cond.fieldLink RX6 19 "ChanceRings$Solver" "net" "LChanceRings$Net;") qw_548) (fun _ h9 => h9) rfl dX6_findWithin_24 ?_
        refine va_get (D := D) (ci := 2) (v := .ref n_kind) (C := RX2) (T := TX2) (N := 8) hx hb hts inlX2 hown hK hP 1 rfl rfl 1 (by decide) (hts (Cond.fieldLink RX6 61 "ChanceRings$Net" "kind" "[I") qw_551) (fun _ h9 => h9) rfl dX6_findWithin_27 ?_
        refine lv_iload_n hx hb dX6_findWithin_30 rfl (lv_at hl 0 rfl) ?_
        refine va_iald hx hb hK hP 2 0 rfl rfl (tr_in h_103730 (by decide) (by decide)) dX6_findWithin_31 ?_
        refine lv_topi (fun v_104442 v_104442_e => ?_)
        have h_v_104442 : 0 ≤ (v_104442 : Int32).toInt ∧ (v_104442 : Int32).toInt ≤ 3 := by rw [v_104442_e]; exact h_n_fkind _
        refine lv_if_ne (tgt := 48) hx hb dX6_findWithin_32 (by decide) (fun c_104443 => ?_) (fun c_104443 => ?_)
        · skip
          have c_104443_i := c_104443
          have c_104443_i : ¬ (v_104442 : Int32).toInt = (0 : Int32).toInt := (fun q => c_104443 (Int32.toInt_inj.mp q))
          have h_104444 : 1 ≤ (v_104442 : Int32).toInt ∧ (v_104442 : Int32).toInt ≤ 3 := by have q1 := h_v_104442; have q2 := (⟨by decide, by decide⟩ : 0 ≤ (0 : Int32).toInt ∧ (0 : Int32).toInt ≤ 0); omega
          refine lv_lconst (v := 0) hx hb dX6_findWithin_48 (by decide) ?_
          refine va_last hx hb hK hP hD hS 9 1 rfl rfl (tr_in h_103730 (by decide) (by decide)) dX6_findWithin_49 (fun H locs hP hD hS => ?_)
          obtain ⟨f_104446, hP, hD⟩ : ∃ FX : Nat → Int64, va_P D vwCl [(sv, .inr (6, [.ref n, .ref co, .ref sv_keep, .ref sv_scaled])), (n, .inr (2, [.int n_nodes, .ref n_kind, .ref n_pay, .ref n_name, .ref n_ways, .ref n_held, .ref n_targets, .ref n_weights])), (n_kind, .inl (g 0, 12, .inl n_fkind)), (n_pay, .inl (g 0, 12, .inl n_fpay)), (n_ways, .inl (g 0, 12, .inl n_fways)), (n_held, .inl (g 0, 12, .inl n_fheld)), (n_targets, .inl (g 0, 36, .inl n_ftargets)), (n_weights, .inl (g 0, 36, .inl n_fweights)), (vs, .inr (10, [.ref vs_part, .long 1])), (vs_part, .inl (g 1, 12, .inr (.inl FX))), (sv_scaled, .inl (g 1, 12, .inr (.inl scf)))] H ∧ va_D A [(sv, .inr (6, [.ref n, .ref co, .ref sv_keep, .ref sv_scaled])), (n, .inr (2, [.int n_nodes, .ref n_kind, .ref n_pay, .ref n_name, .ref n_ways, .ref n_held, .ref n_targets, .ref n_weights])), (n_kind, .inl (g 0, 12, .inl n_fkind)), (n_pay, .inl (g 0, 12, .inl n_fpay)), (n_ways, .inl (g 0, 12, .inl n_fways)), (n_held, .inl (g 0, 12, .inl n_fheld)), (n_targets, .inl (g 0, 36, .inl n_ftargets)), (n_weights, .inl (g 0, 36, .inl n_fweights)), (vs, .inr (10, [.ref vs_part, .long 1])), (vs_part, .inl (g 1, 12, .inr (.inl FX))), (sv_scaled, .inl (g 1, 12, .inr (.inl scf)))] := ⟨_, hP, hD⟩
          have hP : va_P D vwCl [(sv, .inr (6, [.ref n, .ref co, .ref sv_keep, .ref sv_scaled])), (n, .inr (2, [.int n_nodes, .ref n_kind, .ref n_pay, .ref n_name, .ref n_ways, .ref n_held, .ref n_targets, .ref n_weights])), (n_kind, .inl (g 0, 12, .inl n_fkind)), (n_pay, .inl (g 0, 12, .inl n_fpay)), (n_ways, .inl (g 0, 12, .inl n_fways)), (n_held, .inl (g 0, 12, .inl n_fheld)), (n_targets, .inl (g 0, 36, .inl n_ftargets)), (n_weights, .inl (g 0, 36, .inl n_fweights)), (vs, .inr (10, [.ref vs_part, .long 1])), (vs_part, .inl (g 1, 12, .inr (.inl f_104446))), (sv_scaled, .inl (g 1, 12, .inr (.inl scf)))] H := hP
          have hD : va_D A [(sv, .inr (6, [.ref n, .ref co, .ref sv_keep, .ref sv_scaled])), (n, .inr (2, [.int n_nodes, .ref n_kind, .ref n_pay, .ref n_name, .ref n_ways, .ref n_held, .ref n_targets, .ref n_weights])), (n_kind, .inl (g 0, 12, .inl n_fkind)), (n_pay, .inl (g 0, 12, .inl n_fpay)), (n_ways, .inl (g 0, 12, .inl n_fways)), (n_held, .inl (g 0, 12, .inl n_fheld)), (n_targets, .inl (g 0, 36, .inl n_ftargets)), (n_weights, .inl (g 0, 36, .inl n_fweights)), (vs, .inr (10, [.ref vs_part, .long 1])), (vs_part, .inl (g 1, 12, .inr (.inl f_104446))), (sv_scaled, .inl (g 1, 12, .inr (.inl scf)))] := hD
          obtain ⟨v_104447, v_104447_e⟩ : ∃ y : Int32, y = x_103726 + Int32.ofInt 1 := ⟨_, rfl⟩
          have h_v_104447 : 1 ≤ (v_104447 : Int32).toInt ∧ (v_104447 : Int32).toInt ≤ 12 := by rw [v_104447_e]; exact tr_add h_103730 (⟨by decide, by decide⟩ : 1 ≤ (Int32.ofInt 1 : Int32).toInt ∧ (Int32.ofInt 1 : Int32).toInt ≤ 1) (by decide) (by decide) (by decide) (by decide)
          have q_v_104447 : v_104447.toInt = x_103726.toInt + 1 := by rw [v_104447_e]; exact tr_addE h_103730 (⟨by decide, by decide⟩ : 1 ≤ (Int32.ofInt 1 : Int32).toInt ∧ (Int32.ofInt 1 : Int32).toInt ≤ 1) (by decide) (by decide)
          refine lv_iinc (v := v_104447) (lv' := [(3, .int v_104447), (0, .ref sv), (1, .int p0), (2, .ref vs)]) hx hb dX6_findWithin_50 hl (k := 0) rfl v_104447_e.symm (by decide) rfl (fun ls hl => ?_)
          refine lv_goto (tgt := 7) hx hb dX6_findWithin_53 (by decide) ?_
          exact ih_103728 v_104447 f_104446 H _ ls (tr_w h_v_104447 (by decide) (by decide)) (by omega) (hP.sub [0, 1, 2, 3, 4, 5, 6, 7, 8, 9, 10] rfl) (hD.sub [0, 1, 2, 3, 4, 5, 6, 7, 8, 9, 10] (by decide) rfl) hS (lv_sub hl [0, 1, 2, 3] rfl)
        · skip
          have c_104443_i := c_104443
          have c_104443_i : (v_104442 : Int32).toInt = (0 : Int32).toInt := congrArg Int32.toInt c_104443
          have h_104445 : 0 ≤ (v_104442 : Int32).toInt ∧ (v_104442 : Int32).toInt ≤ 0 := by have q1 := h_v_104442; have q2 := (⟨by decide, by decide⟩ : 0 ≤ (0 : Int32).toInt ∧ (0 : Int32).toInt ≤ 0); omega
          refine lv_aload_n hx hb dX6_findWithin_35 rfl (lv_at hl 1 rfl) ?_
          refine va_get (D := D) (ci := 6) (v := .ref n) (C := RX6) (T := TX6) (N := 4) hx hb hts inlX6 hown hK hP 0 rfl rfl 0 (by decide) (hts (Cond.fieldLink RX6 19 "ChanceRings$Solver" "net" "LChanceRings$Net;") qw_548) (fun _ h9 => h9) rfl dX6_findWithin_36 ?_
          refine va_get (D := D) (ci := 2) (v := .ref n_pay) (C := RX2) (T := TX2) (N := 8) hx hb hts inlX2 hown hK hP 1 rfl rfl 2 (by decide) (hts (Cond.fieldLink RX6 96 "ChanceRings$Net" "pay" "[I") qw_614) (fun _ h9 => h9) rfl dX6_findWithin_39 ?_
          refine lv_iload_n hx hb dX6_findWithin_42 rfl (lv_at hl 0 rfl) ?_
          refine va_iald hx hb hK hP 3 0 rfl rfl (tr_in h_103730 (by decide) (by decide)) dX6_findWithin_43 ?_
          refine lv_topi (fun v_104448 v_104448_e => ?_)
          refine lv_i2l hx hb dX6_findWithin_44 rfl ?_
          refine lv_topl (fun w_104449 _ => ?_)
          refine lv_goto (tgt := 49) hx hb dX6_findWithin_45 (by decide) ?_
          refine va_last hx hb hK hP hD hS 9 1 rfl rfl (tr_in h_103730 (by decide) (by decide)) dX6_findWithin_49 (fun H locs hP hD hS => ?_)
          obtain ⟨f_104450, hP, hD⟩ : ∃ FX : Nat → Int64, va_P D vwCl [(sv, .inr (6, [.ref n, .ref co, .ref sv_keep, .ref sv_scaled])), (n, .inr (2, [.int n_nodes, .ref n_kind, .ref n_pay, .ref n_name, .ref n_ways, .ref n_held, .ref n_targets, .ref n_weights])), (n_kind, .inl (g 0, 12, .inl n_fkind)), (n_pay, .inl (g 0, 12, .inl n_fpay)), (n_ways, .inl (g 0, 12, .inl n_fways)), (n_held, .inl (g 0, 12, .inl n_fheld)), (n_targets, .inl (g 0, 36, .inl n_ftargets)), (n_weights, .inl (g 0, 36, .inl n_fweights)), (vs, .inr (10, [.ref vs_part, .long 1])), (vs_part, .inl (g 1, 12, .inr (.inl FX))), (sv_scaled, .inl (g 1, 12, .inr (.inl scf)))] H ∧ va_D A [(sv, .inr (6, [.ref n, .ref co, .ref sv_keep, .ref sv_scaled])), (n, .inr (2, [.int n_nodes, .ref n_kind, .ref n_pay, .ref n_name, .ref n_ways, .ref n_held, .ref n_targets, .ref n_weights])), (n_kind, .inl (g 0, 12, .inl n_fkind)), (n_pay, .inl (g 0, 12, .inl n_fpay)), (n_ways, .inl (g 0, 12, .inl n_fways)), (n_held, .inl (g 0, 12, .inl n_fheld)), (n_targets, .inl (g 0, 36, .inl n_ftargets)), (n_weights, .inl (g 0, 36, .inl n_fweights)), (vs, .inr (10, [.ref vs_part, .long 1])), (vs_part, .inl (g 1, 12, .inr (.inl FX))), (sv_scaled, .inl (g 1, 12, .inr (.inl scf)))] := ⟨_, hP, hD⟩
          have hP : va_P D vwCl [(sv, .inr (6, [.ref n, .ref co, .ref sv_keep, .ref sv_scaled])), (n, .inr (2, [.int n_nodes, .ref n_kind, .ref n_pay, .ref n_name, .ref n_ways, .ref n_held, .ref n_targets, .ref n_weights])), (n_kind, .inl (g 0, 12, .inl n_fkind)), (n_pay, .inl (g 0, 12, .inl n_fpay)), (n_ways, .inl (g 0, 12, .inl n_fways)), (n_held, .inl (g 0, 12, .inl n_fheld)), (n_targets, .inl (g 0, 36, .inl n_ftargets)), (n_weights, .inl (g 0, 36, .inl n_fweights)), (vs, .inr (10, [.ref vs_part, .long 1])), (vs_part, .inl (g 1, 12, .inr (.inl f_104450))), (sv_scaled, .inl (g 1, 12, .inr (.inl scf)))] H := hP
          have hD : va_D A [(sv, .inr (6, [.ref n, .ref co, .ref sv_keep, .ref sv_scaled])), (n, .inr (2, [.int n_nodes, .ref n_kind, .ref n_pay, .ref n_name, .ref n_ways, .ref n_held, .ref n_targets, .ref n_weights])), (n_kind, .inl (g 0, 12, .inl n_fkind)), (n_pay, .inl (g 0, 12, .inl n_fpay)), (n_ways, .inl (g 0, 12, .inl n_fways)), (n_held, .inl (g 0, 12, .inl n_fheld)), (n_targets, .inl (g 0, 36, .inl n_ftargets)), (n_weights, .inl (g 0, 36, .inl n_fweights)), (vs, .inr (10, [.ref vs_part, .long 1])), (vs_part, .inl (g 1, 12, .inr (.inl f_104450))), (sv_scaled, .inl (g 1, 12, .inr (.inl scf)))] := hD
          obtain ⟨v_104451, v_104451_e⟩ : ∃ y : Int32, y = x_103726 + Int32.ofInt 1 := ⟨_, rfl⟩
          have h_v_104451 : 1 ≤ (v_104451 : Int32).toInt ∧ (v_104451 : Int32).toInt ≤ 12 := by rw [v_104451_e]; exact tr_add h_103730 (⟨by decide, by decide⟩ : 1 ≤ (Int32.ofInt 1 : Int32).toInt ∧ (Int32.ofInt 1 : Int32).toInt ≤ 1) (by decide) (by decide) (by decide) (by decide)
          have q_v_104451 : v_104451.toInt = x_103726.toInt + 1 := by rw [v_104451_e]; exact tr_addE h_103730 (⟨by decide, by decide⟩ : 1 ≤ (Int32.ofInt 1 : Int32).toInt ∧ (Int32.ofInt 1 : Int32).toInt ≤ 1) (by decide) (by decide)
          refine lv_iinc (v := v_104451) (lv' := [(3, .int v_104451), (0, .ref sv), (1, .int p0), (2, .ref vs)]) hx hb dX6_findWithin_50 hl (k := 0) rfl v_104451_e.symm (by decide) rfl (fun ls hl => ?_)
          refine lv_goto (tgt := 7) hx hb dX6_findWithin_53 (by decide) ?_
          exact ih_103728 v_104451 f_104450 H _ ls (tr_w h_v_104451 (by decide) (by decide)) (by omega) (hP.sub [0, 1, 2, 3, 4, 5, 6, 7, 8, 9, 10] rfl) (hD.sub [0, 1, 2, 3, 4, 5, 6, 7, 8, 9, 10] (by decide) rfl) hS (lv_sub hl [0, 1, 2, 3] rfl)
  exact lp_103728 13 0 vsp H _ ls (⟨by decide, by decide⟩ : 0 ≤ (0 : Int32).toInt ∧ (0 : Int32).toInt ≤ 12) (by decide) (hP.sub [0, 1, 2, 3, 4, 5, 6, 7, 8, 9, 10] rfl) (hD.sub [0, 1, 2, 3, 4, 5, 6, 7, 8, 9, 10] (by decide) rfl) hS (lv_sub hl [0, 1, 2, 3] rfl)
