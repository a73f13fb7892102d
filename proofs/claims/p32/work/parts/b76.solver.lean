theorem qw_528 : Cond.fieldLink RX6 19 "ChanceRings$Solver" "net" "LChanceRings$Net;" ∈ wsL_law := tseg_2 (by decide +kernel) (List.mem_of_getElem? (i := 61) (by decide +kernel))
theorem qw_529 : Cond.fieldLink RX6 32 "ChanceRings$Net" "nodes" "I" ∈ wsL_law := tseg_1 (by decide +kernel) (List.mem_of_getElem? (i := 55) (by decide +kernel))
theorem qw_530 : Cond.fieldLink RX6 38 "ChanceRings$Net" "held" "[I" ∈ wsL_law := tseg_1 (by decide +kernel) (List.mem_of_getElem? (i := 86) (by decide +kernel))
theorem qw_531 : Cond.fieldLink RX6 61 "ChanceRings$Net" "kind" "[I" ∈ wsL_law := tseg_1 (by decide +kernel) (List.mem_of_getElem? (i := 68) (by decide +kernel))
theorem qw_532 : Cond.fieldLink RX6 68 "ChanceRings$Net" "ways" "[I" ∈ wsL_law := tseg_1 (by decide +kernel) (List.mem_of_getElem? (i := 83) (by decide +kernel))
theorem qw_533 : Cond.fieldLink RX6 71 "ChanceRings$Values" "part" "[J" ∈ wsL_law := tseg_2 (by decide +kernel) (List.mem_of_getElem? (i := 90) (by decide +kernel))
theorem qw_534 : Cond.methodLink RX6 76 yX2_target ∈ wsL_law := tseg_3 (by decide +kernel) (List.mem_of_getElem? (i := 171) (by decide +kernel))
theorem qw_535 : Cond.methodLink RX6 64 yX6_betterWay ∈ wsL_law := tseg_3 (by decide +kernel) (List.mem_of_getElem? (i := 167) (by decide +kernel))
theorem qw_536 : Cond.instanceMethod yX6_betterWay ∈ wsL_law := tseg_3 (by decide +kernel) (List.mem_of_getElem? (i := 169) (by decide +kernel))
theorem qw_537 : Cond.selects RX6 yX6_betterWay yX6_betterWay ∈ wsL_law := List.mem_filter.mpr ⟨List.mem_append_left _ (List.mem_of_getElem? (i := 23) (by decide +kernel)), by decide +kernel⟩
theorem qw_538 : Cond.initialized RX6 ∈ wsL_law := tseg_1 (by decide +kernel) (List.mem_of_getElem? (i := 12) (by decide +kernel))
theorem qw_539 : Cond.code yX6_betterWay cX6_betterWay 9 (some .int) ∈ wsL_law := tseg_3 (by decide +kernel) (List.mem_of_getElem? (i := 170) (by decide +kernel))
theorem qw_540 : Cond.methodLink RX6 49 yX6_turnOpen ∈ wsL_law := tseg_3 (by decide +kernel) (List.mem_of_getElem? (i := 163) (by decide +kernel))
theorem qw_541 : Cond.instanceMethod yX6_turnOpen ∈ wsL_law := tseg_3 (by decide +kernel) (List.mem_of_getElem? (i := 165) (by decide +kernel))
theorem qw_542 : Cond.selects RX6 yX6_turnOpen yX6_turnOpen ∈ wsL_law := List.mem_filter.mpr ⟨List.mem_append_left _ (List.mem_of_getElem? (i := 22) (by decide +kernel)), by decide +kernel⟩
theorem qw_543 : Cond.code yX6_turnOpen cX6_turnOpen 8 (some .int) ∈ wsL_law := tseg_3 (by decide +kernel) (List.mem_of_getElem? (i := 166) (by decide +kernel))
theorem qw_544 : Cond.methodLink RX6 80 yX2_payingEnds ∈ wsL_law := tseg_3 (by decide +kernel) (List.mem_of_getElem? (i := 105) (by decide +kernel))
theorem qw_545 : Cond.fieldLink RX6 28 "ChanceRings$Solver" "course" "LChanceRings$Course;" ∈ wsL_law := tseg_2 (by decide +kernel) (List.mem_of_getElem? (i := 62) (by decide +kernel))
theorem qw_546 : Cond.methodLink RX6 88 yX0_follow ∈ wsL_law := tseg_3 (by decide +kernel) (List.mem_of_getElem? (i := 121) (by decide +kernel))
theorem qw_547 : Cond.instanceMethod yX0_follow ∈ wsL_law := tseg_3 (by decide +kernel) (List.mem_of_getElem? (i := 122) (by decide +kernel))
theorem qw_548 : Cond.selects RX0 yX0_follow yX0_follow ∈ wsL_law := tseg_3 (by decide +kernel) (List.mem_of_getElem? (i := 123) (by decide +kernel))
theorem qw_549 : Cond.code yX0_follow cX0_follow 5 (some .int) ∈ wsL_law := tseg_3 (by decide +kernel) (List.mem_of_getElem? (i := 124) (by decide +kernel))
theorem qw_550 : Cond.methodLink RX6 84 yX2_nextNodes ∈ wsL_law := tseg_3 (by decide +kernel) (List.mem_of_getElem? (i := 109) (by decide +kernel))
theorem qw_551 : Cond.methodLink RX6 41 yX6_unavoidable ∈ wsL_law := tseg_3 (by decide +kernel) (List.mem_of_getElem? (i := 101) (by decide +kernel))
theorem qw_552 : Cond.instanceMethod yX6_unavoidable ∈ wsL_law := tseg_3 (by decide +kernel) (List.mem_of_getElem? (i := 103) (by decide +kernel))
theorem qw_553 : Cond.selects RX6 yX6_unavoidable yX6_unavoidable ∈ wsL_law := List.mem_filter.mpr ⟨List.mem_append_left _ (List.mem_of_getElem? (i := 15) (by decide +kernel)), by decide +kernel⟩
theorem qw_554 : Cond.code yX6_unavoidable cX6_unavoidable 8 (some .int) ∈ wsL_law := tseg_3 (by decide +kernel) (List.mem_of_getElem? (i := 104) (by decide +kernel))
theorem qw_555 : Cond.methodLink RX6 45 yX0_expectPay ∈ wsL_law := tseg_3 (by decide +kernel) (List.mem_of_getElem? (i := 130) (by decide +kernel))
theorem qw_556 : Cond.instanceMethod yX0_expectPay ∈ wsL_law := tseg_3 (by decide +kernel) (List.mem_of_getElem? (i := 131) (by decide +kernel))
theorem qw_557 : Cond.selects RX0 yX0_expectPay yX0_expectPay ∈ wsL_law := tseg_3 (by decide +kernel) (List.mem_of_getElem? (i := 132) (by decide +kernel))
theorem qw_558 : Cond.code yX0_expectPay cX0_expectPay 8 none ∈ wsL_law := tseg_3 (by decide +kernel) (List.mem_of_getElem? (i := 133) (by decide +kernel))
theorem qw_559 : Cond.methodLink RX6 53 yX6_findLeft ∈ wsL_law := tseg_3 (by decide +kernel) (List.mem_of_getElem? (i := 97) (by decide +kernel))
theorem qw_560 : Cond.instanceMethod yX6_findLeft ∈ wsL_law := tseg_3 (by decide +kernel) (List.mem_of_getElem? (i := 98) (by decide +kernel))
theorem qw_561 : Cond.selects RX6 yX6_findLeft yX6_findLeft ∈ wsL_law := tseg_3 (by decide +kernel) (List.mem_of_getElem? (i := 99) (by decide +kernel))
theorem qw_562 : Cond.code yX6_findLeft cX6_findLeft 8 none ∈ wsL_law := tseg_3 (by decide +kernel) (List.mem_of_getElem? (i := 100) (by decide +kernel))
theorem qw_563 : Cond.methodLink RX6 57 yX6_turn ∈ wsL_law := tseg_3 (by decide +kernel) (List.mem_of_getElem? (i := 172) (by decide +kernel))
theorem qw_564 : Cond.instanceMethod yX6_turn ∈ wsL_law := tseg_3 (by decide +kernel) (List.mem_of_getElem? (i := 173) (by decide +kernel))
theorem qw_565 : Cond.selects RX6 yX6_turn yX6_turn ∈ wsL_law := tseg_3 (by decide +kernel) (List.mem_of_getElem? (i := 174) (by decide +kernel))
theorem qw_566 : Cond.code yX6_turn cX6_turn 4 (some .int) ∈ wsL_law := tseg_3 (by decide +kernel) (List.mem_of_getElem? (i := 175) (by decide +kernel))
theorem qw_567 : Cond.fieldLink RX6 9 "ChanceRings$Solver" "keep" "[I" ∈ wsL_law := tseg_2 (by decide +kernel) (List.mem_of_getElem? (i := 64) (by decide +kernel))
theorem qw_568 : Cond.methodLink RX6 128 yX2_canTake ∈ wsL_law := tseg_3 (by decide +kernel) (List.mem_of_getElem? (i := 184) (by decide +kernel))
theorem qw_569 : Cond.methodLink RX6 136 yX6_isBrought ∈ wsL_law := tseg_3 (by decide +kernel) (List.mem_of_getElem? (i := 196) (by decide +kernel))
theorem qw_570 : Cond.instanceMethod yX6_isBrought ∈ wsL_law := tseg_3 (by decide +kernel) (List.mem_of_getElem? (i := 198) (by decide +kernel))
theorem qw_571 : Cond.selects RX6 yX6_isBrought yX6_isBrought ∈ wsL_law := List.mem_filter.mpr ⟨List.mem_append_left _ (List.mem_of_getElem? (i := 27) (by decide +kernel)), by decide +kernel⟩
theorem qw_572 : Cond.code yX6_isBrought cX6_isBrought 9 (some .boolean) ∈ wsL_law := tseg_3 (by decide +kernel) (List.mem_of_getElem? (i := 199) (by decide +kernel))
theorem qw_573 : Cond.methodLink RX6 132 yX6_bringsAll ∈ wsL_law := tseg_3 (by decide +kernel) (List.mem_of_getElem? (i := 192) (by decide +kernel))
theorem qw_574 : Cond.instanceMethod yX6_bringsAll ∈ wsL_law := tseg_3 (by decide +kernel) (List.mem_of_getElem? (i := 194) (by decide +kernel))
theorem qw_575 : Cond.selects RX6 yX6_bringsAll yX6_bringsAll ∈ wsL_law := List.mem_filter.mpr ⟨List.mem_append_left _ (List.mem_of_getElem? (i := 26) (by decide +kernel)), by decide +kernel⟩
theorem qw_576 : Cond.code yX6_bringsAll cX6_bringsAll 6 (some .boolean) ∈ wsL_law := tseg_3 (by decide +kernel) (List.mem_of_getElem? (i := 195) (by decide +kernel))
theorem qw_577 : Cond.methodLink RX6 117 yX6_keepEven ∈ wsL_law := tseg_3 (by decide +kernel) (List.mem_of_getElem? (i := 180) (by decide +kernel))
theorem qw_578 : Cond.instanceMethod yX6_keepEven ∈ wsL_law := tseg_3 (by decide +kernel) (List.mem_of_getElem? (i := 182) (by decide +kernel))
theorem qw_579 : Cond.selects RX6 yX6_keepEven yX6_keepEven ∈ wsL_law := List.mem_filter.mpr ⟨List.mem_append_left _ (List.mem_of_getElem? (i := 24) (by decide +kernel)), by decide +kernel⟩
theorem qw_580 : Cond.code yX6_keepEven cX6_keepEven 4 none ∈ wsL_law := tseg_3 (by decide +kernel) (List.mem_of_getElem? (i := 183) (by decide +kernel))
theorem qw_581 : Cond.methodLink RX6 124 yX6_goodOf ∈ wsL_law := tseg_3 (by decide +kernel) (List.mem_of_getElem? (i := 188) (by decide +kernel))
theorem qw_582 : Cond.instanceMethod yX6_goodOf ∈ wsL_law := tseg_3 (by decide +kernel) (List.mem_of_getElem? (i := 190) (by decide +kernel))
theorem qw_583 : Cond.selects RX6 yX6_goodOf yX6_goodOf ∈ wsL_law := List.mem_filter.mpr ⟨List.mem_append_left _ (List.mem_of_getElem? (i := 25) (by decide +kernel)), by decide +kernel⟩
theorem qw_584 : Cond.code yX6_goodOf cX6_goodOf 6 (some .int) ∈ wsL_law := tseg_3 (by decide +kernel) (List.mem_of_getElem? (i := 191) (by decide +kernel))
theorem qw_585 : Cond.methodLink RX6 121 yX6_lowest ∈ wsL_law := tseg_3 (by decide +kernel) (List.mem_of_getElem? (i := 185) (by decide +kernel))
theorem qw_586 : Cond.static yX6_lowest ∈ wsL_law := tseg_3 (by decide +kernel) (List.mem_of_getElem? (i := 186) (by decide +kernel))
theorem qw_587 : Cond.code yX6_lowest cX6_lowest 2 (some .int) ∈ wsL_law := tseg_3 (by decide +kernel) (List.mem_of_getElem? (i := 187) (by decide +kernel))
theorem qw_588 : Cond.methodLink RX6 114 yX2_together ∈ wsL_law := tseg_5 (by decide +kernel) (List.mem_of_getElem? (i := 110) (by decide +kernel))
theorem qw_589 : Cond.methodLink RX6 111 yX2_weight ∈ wsL_law := tseg_5 (by decide +kernel) (List.mem_of_getElem? (i := 109) (by decide +kernel))
theorem qw_593 : Cond.constantLong RX6 109 (12) ∈ wsL_law := tseg_5 (by decide +kernel) (List.mem_of_getElem? (i := 108) (by decide +kernel))
theorem qw_594 : Cond.fieldLink RX6 92 "ChanceRings$Values" "whole" "J" ∈ wsL_law := tseg_2 (by decide +kernel) (List.mem_of_getElem? (i := 94) (by decide +kernel))
theorem qw_595 : Cond.fieldLink RX6 15 "ChanceRings$Solver" "scaled" "[J" ∈ wsL_law := tseg_2 (by decide +kernel) (List.mem_of_getElem? (i := 65) (by decide +kernel))
theorem qw_596 : Cond.methodLink RX6 103 arraycopyName ∈ wsL_law := tseg_5 (by decide +kernel) (List.mem_of_getElem? (i := 111) (by decide +kernel))
theorem qw_597 : Cond.fieldLink RX6 96 "ChanceRings$Net" "pay" "[I" ∈ wsL_law := tseg_1 (by decide +kernel) (List.mem_of_getElem? (i := 75) (by decide +kernel))
theorem qw_598 : Cond.methodLink RX6 99 yX6_oneMoveMore ∈ wsL_law := tseg_5 (by decide +kernel) (List.mem_of_getElem? (i := 104) (by decide +kernel))
theorem qw_599 : Cond.instanceMethod yX6_oneMoveMore ∈ wsL_law := tseg_5 (by decide +kernel) (List.mem_of_getElem? (i := 106) (by decide +kernel))
theorem qw_600 : Cond.selects RX6 yX6_oneMoveMore yX6_oneMoveMore ∈ wsL_law := List.mem_filter.mpr ⟨List.mem_append_left _ (List.mem_of_getElem? (i := 47) (by decide +kernel)), by decide +kernel⟩
theorem qw_601 : Cond.code yX6_oneMoveMore cX6_oneMoveMore 6 (some .long) ∈ wsL_law := tseg_5 (by decide +kernel) (List.mem_of_getElem? (i := 107) (by decide +kernel))
theorem dX6_betterWay_0 : decode cX6_betterWay 0 = .ok (.aload_n 0, 1) := by decide +kernel
theorem dX6_betterWay_1 : decode cX6_betterWay 1 = .ok (.getfield 19, 3) := by decide +kernel
theorem dX6_betterWay_4 : decode cX6_betterWay 4 = .ok (.getfield 61, 3) := by decide +kernel
theorem dX6_betterWay_7 : decode cX6_betterWay 7 = .ok (.iload_n 1, 1) := by decide +kernel
theorem dX6_betterWay_8 : decode cX6_betterWay 8 = .ok (.iaload, 1) := by decide +kernel
theorem dX6_betterWay_9 : decode cX6_betterWay 9 = .ok (.iconst 1, 1) := by decide +kernel
theorem dX6_betterWay_10 : decode cX6_betterWay 10 = .ok (.if_icmp .ne 7, 3) := by decide +kernel
theorem dX6_betterWay_13 : decode cX6_betterWay 13 = .ok (.iconst 1, 1) := by decide +kernel
theorem dX6_betterWay_14 : decode cX6_betterWay 14 = .ok (.goto 4, 3) := by decide +kernel
theorem dX6_betterWay_17 : decode cX6_betterWay 17 = .ok (.iconst (-1), 1) := by decide +kernel
theorem dX6_betterWay_18 : decode cX6_betterWay 18 = .ok (.istore 4, 2) := by decide +kernel
theorem dX6_betterWay_20 : decode cX6_betterWay 20 = .ok (.iload_n 2, 1) := by decide +kernel
theorem dX6_betterWay_21 : decode cX6_betterWay 21 = .ok (.istore 5, 2) := by decide +kernel
theorem dX6_betterWay_23 : decode cX6_betterWay 23 = .ok (.iconst 0, 1) := by decide +kernel
theorem dX6_betterWay_24 : decode cX6_betterWay 24 = .ok (.istore 6, 2) := by decide +kernel
theorem dX6_betterWay_26 : decode cX6_betterWay 26 = .ok (.iload 6, 2) := by decide +kernel
theorem dX6_betterWay_28 : decode cX6_betterWay 28 = .ok (.aload_n 0, 1) := by decide +kernel
theorem dX6_betterWay_29 : decode cX6_betterWay 29 = .ok (.getfield 19, 3) := by decide +kernel
theorem dX6_betterWay_32 : decode cX6_betterWay 32 = .ok (.getfield 68, 3) := by decide +kernel
theorem dX6_betterWay_35 : decode cX6_betterWay 35 = .ok (.iload_n 1, 1) := by decide +kernel
theorem dX6_betterWay_36 : decode cX6_betterWay 36 = .ok (.iaload, 1) := by decide +kernel
theorem dX6_betterWay_37 : decode cX6_betterWay 37 = .ok (.if_icmp .ge 57, 3) := by decide +kernel
theorem dX6_betterWay_40 : decode cX6_betterWay 40 = .ok (.aload_n 3, 1) := by decide +kernel
theorem dX6_betterWay_41 : decode cX6_betterWay 41 = .ok (.getfield 71, 3) := by decide +kernel
theorem dX6_betterWay_44 : decode cX6_betterWay 44 = .ok (.aload_n 0, 1) := by decide +kernel
theorem dX6_betterWay_45 : decode cX6_betterWay 45 = .ok (.getfield 19, 3) := by decide +kernel
theorem dX6_betterWay_48 : decode cX6_betterWay 48 = .ok (.iload_n 1, 1) := by decide +kernel
theorem dX6_betterWay_49 : decode cX6_betterWay 49 = .ok (.iload 6, 2) := by decide +kernel
theorem dX6_betterWay_51 : decode cX6_betterWay 51 = .ok (.invokevirtual 76, 3) := by decide +kernel
theorem dX6_betterWay_54 : decode cX6_betterWay 54 = .ok (.laload, 1) := by decide +kernel
theorem dX6_betterWay_55 : decode cX6_betterWay 55 = .ok (.aload_n 3, 1) := by decide +kernel
theorem dX6_betterWay_56 : decode cX6_betterWay 56 = .ok (.getfield 71, 3) := by decide +kernel
theorem dX6_betterWay_59 : decode cX6_betterWay 59 = .ok (.aload_n 0, 1) := by decide +kernel
theorem dX6_betterWay_60 : decode cX6_betterWay 60 = .ok (.getfield 19, 3) := by decide +kernel
theorem dX6_betterWay_63 : decode cX6_betterWay 63 = .ok (.iload_n 1, 1) := by decide +kernel
theorem dX6_betterWay_64 : decode cX6_betterWay 64 = .ok (.iload 5, 2) := by decide +kernel
theorem dX6_betterWay_66 : decode cX6_betterWay 66 = .ok (.invokevirtual 76, 3) := by decide +kernel
theorem dX6_betterWay_69 : decode cX6_betterWay 69 = .ok (.laload, 1) := by decide +kernel
theorem dX6_betterWay_70 : decode cX6_betterWay 70 = .ok (.lsub, 1) := by decide +kernel
theorem dX6_betterWay_71 : decode cX6_betterWay 71 = .ok (.lstore 7, 2) := by decide +kernel
theorem dX6_betterWay_73 : decode cX6_betterWay 73 = .ok (.iload 4, 2) := by decide +kernel
theorem dX6_betterWay_75 : decode cX6_betterWay 75 = .ok (.i2l, 1) := by decide +kernel
theorem dX6_betterWay_76 : decode cX6_betterWay 76 = .ok (.lload 7, 2) := by decide +kernel
theorem dX6_betterWay_78 : decode cX6_betterWay 78 = .ok (.lmul, 1) := by decide +kernel
theorem dX6_betterWay_79 : decode cX6_betterWay 79 = .ok (.lconst 0, 1) := by decide +kernel
theorem dX6_betterWay_80 : decode cX6_betterWay 80 = .ok (.lcmp, 1) := by decide +kernel
theorem dX6_betterWay_81 : decode cX6_betterWay 81 = .ok (.ifCond .le 7, 3) := by decide +kernel
theorem dX6_betterWay_84 : decode cX6_betterWay 84 = .ok (.iload 6, 2) := by decide +kernel
theorem dX6_betterWay_86 : decode cX6_betterWay 86 = .ok (.istore 5, 2) := by decide +kernel
theorem dX6_betterWay_88 : decode cX6_betterWay 88 = .ok (.iinc 6 1, 3) := by decide +kernel
theorem dX6_betterWay_91 : decode cX6_betterWay 91 = .ok (.goto (-65), 3) := by decide +kernel
theorem dX6_betterWay_94 : decode cX6_betterWay 94 = .ok (.iload 5, 2) := by decide +kernel
theorem dX6_betterWay_96 : decode cX6_betterWay 96 = .ok (.ireturn, 1) := by decide +kernel
theorem dX6_bringsAll_0 : decode cX6_bringsAll 0 = .ok (.aload_n 0, 1) := by decide +kernel
theorem dX6_bringsAll_1 : decode cX6_bringsAll 1 = .ok (.getfield 19, 3) := by decide +kernel
theorem dX6_bringsAll_4 : decode cX6_bringsAll 4 = .ok (.invokevirtual 80, 3) := by decide +kernel
theorem dX6_bringsAll_7 : decode cX6_bringsAll 7 = .ok (.istore_n 2, 1) := by decide +kernel
theorem dX6_bringsAll_8 : decode cX6_bringsAll 8 = .ok (.iconst (-1), 1) := by decide +kernel
theorem dX6_bringsAll_9 : decode cX6_bringsAll 9 = .ok (.istore_n 3, 1) := by decide +kernel
theorem dX6_bringsAll_10 : decode cX6_bringsAll 10 = .ok (.iconst 0, 1) := by decide +kernel
theorem dX6_bringsAll_11 : decode cX6_bringsAll 11 = .ok (.istore 4, 2) := by decide +kernel
theorem dX6_bringsAll_13 : decode cX6_bringsAll 13 = .ok (.iload 4, 2) := by decide +kernel
theorem dX6_bringsAll_15 : decode cX6_bringsAll 15 = .ok (.bipush 12, 2) := by decide +kernel
theorem dX6_bringsAll_17 : decode cX6_bringsAll 17 = .ok (.if_icmp .ge 67, 3) := by decide +kernel
theorem dX6_bringsAll_20 : decode cX6_bringsAll 20 = .ok (.iload_n 2, 1) := by decide +kernel
theorem dX6_bringsAll_21 : decode cX6_bringsAll 21 = .ok (.iload_n 3, 1) := by decide +kernel
theorem dX6_bringsAll_22 : decode cX6_bringsAll 22 = .ok (.if_icmp .eq 62, 3) := by decide +kernel
theorem dX6_bringsAll_25 : decode cX6_bringsAll 25 = .ok (.iload_n 2, 1) := by decide +kernel
theorem dX6_bringsAll_26 : decode cX6_bringsAll 26 = .ok (.istore_n 3, 1) := by decide +kernel
theorem dX6_bringsAll_27 : decode cX6_bringsAll 27 = .ok (.iconst 0, 1) := by decide +kernel
theorem dX6_bringsAll_28 : decode cX6_bringsAll 28 = .ok (.istore 5, 2) := by decide +kernel
theorem dX6_bringsAll_30 : decode cX6_bringsAll 30 = .ok (.iload 5, 2) := by decide +kernel
theorem dX6_bringsAll_32 : decode cX6_bringsAll 32 = .ok (.aload_n 0, 1) := by decide +kernel
theorem dX6_bringsAll_33 : decode cX6_bringsAll 33 = .ok (.getfield 19, 3) := by decide +kernel
theorem dX6_bringsAll_36 : decode cX6_bringsAll 36 = .ok (.getfield 32, 3) := by decide +kernel
theorem dX6_bringsAll_39 : decode cX6_bringsAll 39 = .ok (.if_icmp .ge 39, 3) := by decide +kernel
theorem dX6_bringsAll_42 : decode cX6_bringsAll 42 = .ok (.aload_n 1, 1) := by decide +kernel
theorem dX6_bringsAll_43 : decode cX6_bringsAll 43 = .ok (.getfield 71, 3) := by decide +kernel
theorem dX6_bringsAll_46 : decode cX6_bringsAll 46 = .ok (.iload 5, 2) := by decide +kernel
theorem dX6_bringsAll_48 : decode cX6_bringsAll 48 = .ok (.laload, 1) := by decide +kernel
theorem dX6_bringsAll_49 : decode cX6_bringsAll 49 = .ok (.lconst 0, 1) := by decide +kernel
theorem dX6_bringsAll_50 : decode cX6_bringsAll 50 = .ok (.lcmp, 1) := by decide +kernel
theorem dX6_bringsAll_51 : decode cX6_bringsAll 51 = .ok (.ifCond .le 21, 3) := by decide +kernel
theorem dX6_bringsAll_54 : decode cX6_bringsAll 54 = .ok (.aload_n 0, 1) := by decide +kernel
theorem dX6_bringsAll_55 : decode cX6_bringsAll 55 = .ok (.iload 5, 2) := by decide +kernel
theorem dX6_bringsAll_57 : decode cX6_bringsAll 57 = .ok (.iload_n 2, 1) := by decide +kernel
theorem dX6_bringsAll_58 : decode cX6_bringsAll 58 = .ok (.aload_n 1, 1) := by decide +kernel
theorem dX6_bringsAll_59 : decode cX6_bringsAll 59 = .ok (.invokevirtual 136, 3) := by decide +kernel
theorem dX6_bringsAll_62 : decode cX6_bringsAll 62 = .ok (.ifCond .eq 10, 3) := by decide +kernel
theorem dX6_bringsAll_65 : decode cX6_bringsAll 65 = .ok (.iload_n 2, 1) := by decide +kernel
theorem dX6_bringsAll_66 : decode cX6_bringsAll 66 = .ok (.iconst 1, 1) := by decide +kernel
theorem dX6_bringsAll_67 : decode cX6_bringsAll 67 = .ok (.iload 5, 2) := by decide +kernel
theorem dX6_bringsAll_69 : decode cX6_bringsAll 69 = .ok (.ishl, 1) := by decide +kernel
theorem dX6_bringsAll_70 : decode cX6_bringsAll 70 = .ok (.ior, 1) := by decide +kernel
theorem dX6_bringsAll_71 : decode cX6_bringsAll 71 = .ok (.istore_n 2, 1) := by decide +kernel
theorem dX6_bringsAll_72 : decode cX6_bringsAll 72 = .ok (.iinc 5 1, 3) := by decide +kernel
theorem dX6_bringsAll_75 : decode cX6_bringsAll 75 = .ok (.goto (-45), 3) := by decide +kernel
theorem dX6_bringsAll_78 : decode cX6_bringsAll 78 = .ok (.iinc 4 1, 3) := by decide +kernel
theorem dX6_bringsAll_81 : decode cX6_bringsAll 81 = .ok (.goto (-68), 3) := by decide +kernel
theorem dX6_bringsAll_84 : decode cX6_bringsAll 84 = .ok (.iconst 0, 1) := by decide +kernel
theorem dX6_bringsAll_85 : decode cX6_bringsAll 85 = .ok (.istore 4, 2) := by decide +kernel
theorem dX6_bringsAll_87 : decode cX6_bringsAll 87 = .ok (.iload 4, 2) := by decide +kernel
theorem dX6_bringsAll_89 : decode cX6_bringsAll 89 = .ok (.aload_n 0, 1) := by decide +kernel
theorem dX6_bringsAll_90 : decode cX6_bringsAll 90 = .ok (.getfield 19, 3) := by decide +kernel
theorem dX6_bringsAll_93 : decode cX6_bringsAll 93 = .ok (.getfield 32, 3) := by decide +kernel
theorem dX6_bringsAll_96 : decode cX6_bringsAll 96 = .ok (.if_icmp .ge 32, 3) := by decide +kernel
theorem dX6_bringsAll_99 : decode cX6_bringsAll 99 = .ok (.aload_n 1, 1) := by decide +kernel
theorem dX6_bringsAll_100 : decode cX6_bringsAll 100 = .ok (.getfield 71, 3) := by decide +kernel
theorem dX6_bringsAll_103 : decode cX6_bringsAll 103 = .ok (.iload 4, 2) := by decide +kernel
theorem dX6_bringsAll_105 : decode cX6_bringsAll 105 = .ok (.laload, 1) := by decide +kernel
theorem dX6_bringsAll_106 : decode cX6_bringsAll 106 = .ok (.lconst 0, 1) := by decide +kernel
theorem dX6_bringsAll_107 : decode cX6_bringsAll 107 = .ok (.lcmp, 1) := by decide +kernel
theorem dX6_bringsAll_108 : decode cX6_bringsAll 108 = .ok (.ifCond .le 14, 3) := by decide +kernel
theorem dX6_bringsAll_111 : decode cX6_bringsAll 111 = .ok (.iload_n 2, 1) := by decide +kernel
theorem dX6_bringsAll_112 : decode cX6_bringsAll 112 = .ok (.iload 4, 2) := by decide +kernel
theorem dX6_bringsAll_114 : decode cX6_bringsAll 114 = .ok (.ishr, 1) := by decide +kernel
theorem dX6_bringsAll_115 : decode cX6_bringsAll 115 = .ok (.iconst 1, 1) := by decide +kernel
theorem dX6_bringsAll_116 : decode cX6_bringsAll 116 = .ok (.iand, 1) := by decide +kernel
theorem dX6_bringsAll_117 : decode cX6_bringsAll 117 = .ok (.ifCond .ne 5, 3) := by decide +kernel
theorem dX6_bringsAll_120 : decode cX6_bringsAll 120 = .ok (.iconst 0, 1) := by decide +kernel
theorem dX6_bringsAll_121 : decode cX6_bringsAll 121 = .ok (.ireturn, 1) := by decide +kernel
theorem dX6_bringsAll_122 : decode cX6_bringsAll 122 = .ok (.iinc 4 1, 3) := by decide +kernel
theorem dX6_bringsAll_125 : decode cX6_bringsAll 125 = .ok (.goto (-38), 3) := by decide +kernel
theorem dX6_bringsAll_128 : decode cX6_bringsAll 128 = .ok (.iconst 1, 1) := by decide +kernel
theorem dX6_bringsAll_129 : decode cX6_bringsAll 129 = .ok (.ireturn, 1) := by decide +kernel
theorem dX6_findBest_0 : decode cX6_findBest 0 = .ok (.aload_n 0, 1) := by decide +kernel
theorem dX6_findBest_1 : decode cX6_findBest 1 = .ok (.aload_n 1, 1) := by decide +kernel
theorem dX6_findBest_2 : decode cX6_findBest 2 = .ok (.invokevirtual 117, 3) := by decide +kernel
theorem dX6_findBest_5 : decode cX6_findBest 5 = .ok (.iconst 0, 1) := by decide +kernel
theorem dX6_findBest_6 : decode cX6_findBest 6 = .ok (.istore_n 3, 1) := by decide +kernel
theorem dX6_findBest_7 : decode cX6_findBest 7 = .ok (.iload_n 3, 1) := by decide +kernel
theorem dX6_findBest_8 : decode cX6_findBest 8 = .ok (.aload_n 0, 1) := by decide +kernel
theorem dX6_findBest_9 : decode cX6_findBest 9 = .ok (.getfield 19, 3) := by decide +kernel
theorem dX6_findBest_12 : decode cX6_findBest 12 = .ok (.getfield 32, 3) := by decide +kernel
theorem dX6_findBest_15 : decode cX6_findBest 15 = .ok (.if_icmp .ge 73, 3) := by decide +kernel
theorem dX6_findBest_18 : decode cX6_findBest 18 = .ok (.aload_n 0, 1) := by decide +kernel
theorem dX6_findBest_19 : decode cX6_findBest 19 = .ok (.getfield 19, 3) := by decide +kernel
theorem dX6_findBest_22 : decode cX6_findBest 22 = .ok (.getfield 61, 3) := by decide +kernel
theorem dX6_findBest_25 : decode cX6_findBest 25 = .ok (.iload_n 3, 1) := by decide +kernel
theorem dX6_findBest_26 : decode cX6_findBest 26 = .ok (.iaload, 1) := by decide +kernel
theorem dX6_findBest_27 : decode cX6_findBest 27 = .ok (.iconst 2, 1) := by decide +kernel
theorem dX6_findBest_28 : decode cX6_findBest 28 = .ok (.if_icmp .ne 18, 3) := by decide +kernel
theorem dX6_findBest_31 : decode cX6_findBest 31 = .ok (.aload_n 2, 1) := by decide +kernel
theorem dX6_findBest_32 : decode cX6_findBest 32 = .ok (.iload_n 3, 1) := by decide +kernel
theorem dX6_findBest_33 : decode cX6_findBest 33 = .ok (.aload_n 0, 1) := by decide +kernel
theorem dX6_findBest_34 : decode cX6_findBest 34 = .ok (.getfield 9, 3) := by decide +kernel
theorem dX6_findBest_37 : decode cX6_findBest 37 = .ok (.iload_n 3, 1) := by decide +kernel
theorem dX6_findBest_38 : decode cX6_findBest 38 = .ok (.iaload, 1) := by decide +kernel
theorem dX6_findBest_39 : decode cX6_findBest 39 = .ok (.invokestatic 121, 3) := by decide +kernel
theorem dX6_findBest_42 : decode cX6_findBest 42 = .ok (.iastore, 1) := by decide +kernel
theorem dX6_findBest_43 : decode cX6_findBest 43 = .ok (.goto 39, 3) := by decide +kernel
theorem dX6_findBest_46 : decode cX6_findBest 46 = .ok (.aload_n 0, 1) := by decide +kernel
theorem dX6_findBest_47 : decode cX6_findBest 47 = .ok (.getfield 19, 3) := by decide +kernel
theorem dX6_findBest_50 : decode cX6_findBest 50 = .ok (.getfield 61, 3) := by decide +kernel
theorem dX6_findBest_53 : decode cX6_findBest 53 = .ok (.iload_n 3, 1) := by decide +kernel
theorem dX6_findBest_54 : decode cX6_findBest 54 = .ok (.iaload, 1) := by decide +kernel
theorem dX6_findBest_55 : decode cX6_findBest 55 = .ok (.iconst 1, 1) := by decide +kernel
theorem dX6_findBest_56 : decode cX6_findBest 56 = .ok (.if_icmp .ne 26, 3) := by decide +kernel
theorem dX6_findBest_59 : decode cX6_findBest 59 = .ok (.aload_n 2, 1) := by decide +kernel
theorem dX6_findBest_60 : decode cX6_findBest 60 = .ok (.iload_n 3, 1) := by decide +kernel
theorem dX6_findBest_61 : decode cX6_findBest 61 = .ok (.aload_n 0, 1) := by decide +kernel
theorem dX6_findBest_62 : decode cX6_findBest 62 = .ok (.iload_n 3, 1) := by decide +kernel
theorem dX6_findBest_63 : decode cX6_findBest 63 = .ok (.aload_n 1, 1) := by decide +kernel
theorem dX6_findBest_64 : decode cX6_findBest 64 = .ok (.invokevirtual 124, 3) := by decide +kernel
theorem dX6_findBest_67 : decode cX6_findBest 67 = .ok (.invokestatic 121, 3) := by decide +kernel
theorem dX6_findBest_70 : decode cX6_findBest 70 = .ok (.iastore, 1) := by decide +kernel
theorem dX6_findBest_71 : decode cX6_findBest 71 = .ok (.aload_n 0, 1) := by decide +kernel
theorem dX6_findBest_72 : decode cX6_findBest 72 = .ok (.getfield 9, 3) := by decide +kernel
theorem dX6_findBest_75 : decode cX6_findBest 75 = .ok (.iload_n 3, 1) := by decide +kernel
theorem dX6_findBest_76 : decode cX6_findBest 76 = .ok (.iconst 1, 1) := by decide +kernel
theorem dX6_findBest_77 : decode cX6_findBest 77 = .ok (.aload_n 2, 1) := by decide +kernel
theorem dX6_findBest_78 : decode cX6_findBest 78 = .ok (.iload_n 3, 1) := by decide +kernel
theorem dX6_findBest_79 : decode cX6_findBest 79 = .ok (.iaload, 1) := by decide +kernel
theorem dX6_findBest_80 : decode cX6_findBest 80 = .ok (.ishl, 1) := by decide +kernel
theorem dX6_findBest_81 : decode cX6_findBest 81 = .ok (.iastore, 1) := by decide +kernel
theorem dX6_findBest_82 : decode cX6_findBest 82 = .ok (.iinc 3 1, 3) := by decide +kernel
theorem dX6_findBest_85 : decode cX6_findBest 85 = .ok (.goto (-78), 3) := by decide +kernel
theorem dX6_findBest_88 : decode cX6_findBest 88 = .ok (.return_, 1) := by decide +kernel
theorem dX6_findLeft_0 : decode cX6_findLeft 0 = .ok (.aload_n 0, 1) := by decide +kernel
theorem dX6_findLeft_1 : decode cX6_findLeft 1 = .ok (.aload_n 1, 1) := by decide +kernel
theorem dX6_findLeft_2 : decode cX6_findLeft 2 = .ok (.invokevirtual 41, 3) := by decide +kernel
theorem dX6_findLeft_5 : decode cX6_findLeft 5 = .ok (.istore 5, 2) := by decide +kernel
theorem dX6_findLeft_7 : decode cX6_findLeft 7 = .ok (.iconst 1, 1) := by decide +kernel
theorem dX6_findLeft_8 : decode cX6_findLeft 8 = .ok (.istore 6, 2) := by decide +kernel
theorem dX6_findLeft_10 : decode cX6_findLeft 10 = .ok (.iconst 0, 1) := by decide +kernel
theorem dX6_findLeft_11 : decode cX6_findLeft 11 = .ok (.istore 7, 2) := by decide +kernel
theorem dX6_findLeft_13 : decode cX6_findLeft 13 = .ok (.iload 6, 2) := by decide +kernel
theorem dX6_findLeft_15 : decode cX6_findLeft 15 = .ok (.ifCond .eq 51, 3) := by decide +kernel
theorem dX6_findLeft_18 : decode cX6_findLeft 18 = .ok (.iload 7, 2) := by decide +kernel
theorem dX6_findLeft_20 : decode cX6_findLeft 20 = .ok (.sipush 6561, 3) := by decide +kernel
theorem dX6_findLeft_23 : decode cX6_findLeft 23 = .ok (.if_icmp .ge 43, 3) := by decide +kernel
theorem dX6_findLeft_26 : decode cX6_findLeft 26 = .ok (.aload_n 0, 1) := by decide +kernel
theorem dX6_findLeft_27 : decode cX6_findLeft 27 = .ok (.getfield 28, 3) := by decide +kernel
theorem dX6_findLeft_30 : decode cX6_findLeft 30 = .ok (.aload_n 1, 1) := by decide +kernel
theorem dX6_findLeft_31 : decode cX6_findLeft 31 = .ok (.iload 5, 2) := by decide +kernel
theorem dX6_findLeft_33 : decode cX6_findLeft 33 = .ok (.iload_n 2, 1) := by decide +kernel
theorem dX6_findLeft_34 : decode cX6_findLeft 34 = .ok (.iload_n 3, 1) := by decide +kernel
theorem dX6_findLeft_35 : decode cX6_findLeft 35 = .ok (.aload 4, 2) := by decide +kernel
theorem dX6_findLeft_37 : decode cX6_findLeft 37 = .ok (.invokevirtual 45, 3) := by decide +kernel
theorem dX6_findLeft_40 : decode cX6_findLeft 40 = .ok (.aload_n 0, 1) := by decide +kernel
theorem dX6_findLeft_41 : decode cX6_findLeft 41 = .ok (.iconst 2, 1) := by decide +kernel
theorem dX6_findLeft_42 : decode cX6_findLeft 42 = .ok (.aload_n 1, 1) := by decide +kernel
theorem dX6_findLeft_43 : decode cX6_findLeft 43 = .ok (.aload 4, 2) := by decide +kernel
theorem dX6_findLeft_45 : decode cX6_findLeft 45 = .ok (.iload 5, 2) := by decide +kernel
theorem dX6_findLeft_47 : decode cX6_findLeft 47 = .ok (.invokevirtual 49, 3) := by decide +kernel
theorem dX6_findLeft_50 : decode cX6_findLeft 50 = .ok (.ifCond .le 7, 3) := by decide +kernel
theorem dX6_findLeft_53 : decode cX6_findLeft 53 = .ok (.iconst 1, 1) := by decide +kernel
theorem dX6_findLeft_54 : decode cX6_findLeft 54 = .ok (.goto 4, 3) := by decide +kernel
theorem dX6_findLeft_57 : decode cX6_findLeft 57 = .ok (.iconst 0, 1) := by decide +kernel
theorem dX6_findLeft_58 : decode cX6_findLeft 58 = .ok (.istore 6, 2) := by decide +kernel
theorem dX6_findLeft_60 : decode cX6_findLeft 60 = .ok (.iinc 7 1, 3) := by decide +kernel
theorem dX6_findLeft_63 : decode cX6_findLeft 63 = .ok (.goto (-50), 3) := by decide +kernel
theorem dX6_findLeft_66 : decode cX6_findLeft 66 = .ok (.return_, 1) := by decide +kernel
theorem dX6_findWithin_0 : decode cX6_findWithin 0 = .ok (.aload_n 2, 1) := by decide +kernel
theorem dX6_findWithin_1 : decode cX6_findWithin 1 = .ok (.lconst 1, 1) := by decide +kernel
theorem dX6_findWithin_2 : decode cX6_findWithin 2 = .ok (.putfield 92, 3) := by decide +kernel
theorem dX6_findWithin_5 : decode cX6_findWithin 5 = .ok (.iconst 0, 1) := by decide +kernel
theorem dX6_findWithin_6 : decode cX6_findWithin 6 = .ok (.istore_n 3, 1) := by decide +kernel
theorem dX6_findWithin_7 : decode cX6_findWithin 7 = .ok (.iload_n 3, 1) := by decide +kernel
theorem dX6_findWithin_8 : decode cX6_findWithin 8 = .ok (.aload_n 0, 1) := by decide +kernel
theorem dX6_findWithin_9 : decode cX6_findWithin 9 = .ok (.getfield 19, 3) := by decide +kernel
theorem dX6_findWithin_12 : decode cX6_findWithin 12 = .ok (.getfield 32, 3) := by decide +kernel
theorem dX6_findWithin_15 : decode cX6_findWithin 15 = .ok (.if_icmp .ge 41, 3) := by decide +kernel
theorem dX6_findWithin_18 : decode cX6_findWithin 18 = .ok (.aload_n 2, 1) := by decide +kernel
theorem dX6_findWithin_19 : decode cX6_findWithin 19 = .ok (.getfield 71, 3) := by decide +kernel
theorem dX6_findWithin_22 : decode cX6_findWithin 22 = .ok (.iload_n 3, 1) := by decide +kernel
theorem dX6_findWithin_23 : decode cX6_findWithin 23 = .ok (.aload_n 0, 1) := by decide +kernel
theorem dX6_findWithin_24 : decode cX6_findWithin 24 = .ok (.getfield 19, 3) := by decide +kernel
theorem dX6_findWithin_27 : decode cX6_findWithin 27 = .ok (.getfield 61, 3) := by decide +kernel
theorem dX6_findWithin_30 : decode cX6_findWithin 30 = .ok (.iload_n 3, 1) := by decide +kernel
theorem dX6_findWithin_31 : decode cX6_findWithin 31 = .ok (.iaload, 1) := by decide +kernel
theorem dX6_findWithin_32 : decode cX6_findWithin 32 = .ok (.ifCond .ne 16, 3) := by decide +kernel
theorem dX6_findWithin_35 : decode cX6_findWithin 35 = .ok (.aload_n 0, 1) := by decide +kernel
theorem dX6_findWithin_36 : decode cX6_findWithin 36 = .ok (.getfield 19, 3) := by decide +kernel
theorem dX6_findWithin_39 : decode cX6_findWithin 39 = .ok (.getfield 96, 3) := by decide +kernel
theorem dX6_findWithin_42 : decode cX6_findWithin 42 = .ok (.iload_n 3, 1) := by decide +kernel
theorem dX6_findWithin_43 : decode cX6_findWithin 43 = .ok (.iaload, 1) := by decide +kernel
theorem dX6_findWithin_44 : decode cX6_findWithin 44 = .ok (.i2l, 1) := by decide +kernel
theorem dX6_findWithin_45 : decode cX6_findWithin 45 = .ok (.goto 4, 3) := by decide +kernel
theorem dX6_findWithin_48 : decode cX6_findWithin 48 = .ok (.lconst 0, 1) := by decide +kernel
theorem dX6_findWithin_49 : decode cX6_findWithin 49 = .ok (.lastore, 1) := by decide +kernel
theorem dX6_findWithin_50 : decode cX6_findWithin 50 = .ok (.iinc 3 1, 3) := by decide +kernel
theorem dX6_findWithin_53 : decode cX6_findWithin 53 = .ok (.goto (-46), 3) := by decide +kernel
theorem dX6_findWithin_56 : decode cX6_findWithin 56 = .ok (.iconst 0, 1) := by decide +kernel
theorem dX6_findWithin_57 : decode cX6_findWithin 57 = .ok (.istore_n 3, 1) := by decide +kernel
theorem dX6_findWithin_58 : decode cX6_findWithin 58 = .ok (.iload_n 3, 1) := by decide +kernel
theorem dX6_findWithin_59 : decode cX6_findWithin 59 = .ok (.iload_n 1, 1) := by decide +kernel
theorem dX6_findWithin_60 : decode cX6_findWithin 60 = .ok (.if_icmp .ge 71, 3) := by decide +kernel
theorem dX6_findWithin_63 : decode cX6_findWithin 63 = .ok (.iconst 0, 1) := by decide +kernel
theorem dX6_findWithin_64 : decode cX6_findWithin 64 = .ok (.istore 4, 2) := by decide +kernel
theorem dX6_findWithin_66 : decode cX6_findWithin 66 = .ok (.iload 4, 2) := by decide +kernel
theorem dX6_findWithin_68 : decode cX6_findWithin 68 = .ok (.aload_n 0, 1) := by decide +kernel
theorem dX6_findWithin_69 : decode cX6_findWithin 69 = .ok (.getfield 19, 3) := by decide +kernel
theorem dX6_findWithin_72 : decode cX6_findWithin 72 = .ok (.getfield 32, 3) := by decide +kernel
theorem dX6_findWithin_75 : decode cX6_findWithin 75 = .ok (.if_icmp .ge 23, 3) := by decide +kernel
theorem dX6_findWithin_78 : decode cX6_findWithin 78 = .ok (.aload_n 0, 1) := by decide +kernel
theorem dX6_findWithin_79 : decode cX6_findWithin 79 = .ok (.getfield 15, 3) := by decide +kernel
theorem dX6_findWithin_82 : decode cX6_findWithin 82 = .ok (.iload 4, 2) := by decide +kernel
theorem dX6_findWithin_84 : decode cX6_findWithin 84 = .ok (.aload_n 0, 1) := by decide +kernel
theorem dX6_findWithin_85 : decode cX6_findWithin 85 = .ok (.iload 4, 2) := by decide +kernel
theorem dX6_findWithin_87 : decode cX6_findWithin 87 = .ok (.aload_n 2, 1) := by decide +kernel
theorem dX6_findWithin_88 : decode cX6_findWithin 88 = .ok (.invokevirtual 99, 3) := by decide +kernel
theorem dX6_findWithin_91 : decode cX6_findWithin 91 = .ok (.lastore, 1) := by decide +kernel
theorem dX6_findWithin_92 : decode cX6_findWithin 92 = .ok (.iinc 4 1, 3) := by decide +kernel
theorem dX6_findWithin_95 : decode cX6_findWithin 95 = .ok (.goto (-29), 3) := by decide +kernel
theorem dX6_findWithin_98 : decode cX6_findWithin 98 = .ok (.aload_n 0, 1) := by decide +kernel
theorem dX6_findWithin_99 : decode cX6_findWithin 99 = .ok (.getfield 15, 3) := by decide +kernel
theorem dX6_findWithin_102 : decode cX6_findWithin 102 = .ok (.iconst 0, 1) := by decide +kernel
theorem dX6_findWithin_103 : decode cX6_findWithin 103 = .ok (.aload_n 2, 1) := by decide +kernel
theorem dX6_findWithin_104 : decode cX6_findWithin 104 = .ok (.getfield 71, 3) := by decide +kernel
theorem dX6_findWithin_107 : decode cX6_findWithin 107 = .ok (.iconst 0, 1) := by decide +kernel
theorem dX6_findWithin_108 : decode cX6_findWithin 108 = .ok (.bipush 12, 2) := by decide +kernel
theorem dX6_findWithin_110 : decode cX6_findWithin 110 = .ok (.invokestatic 103, 3) := by decide +kernel
theorem dX6_findWithin_113 : decode cX6_findWithin 113 = .ok (.aload_n 2, 1) := by decide +kernel
theorem dX6_findWithin_114 : decode cX6_findWithin 114 = .ok (.dup, 1) := by decide +kernel
theorem dX6_findWithin_115 : decode cX6_findWithin 115 = .ok (.getfield 92, 3) := by decide +kernel
theorem dX6_findWithin_118 : decode cX6_findWithin 118 = .ok (.ldc2_w 109, 3) := by decide +kernel
theorem dX6_findWithin_121 : decode cX6_findWithin 121 = .ok (.lmul, 1) := by decide +kernel
theorem dX6_findWithin_122 : decode cX6_findWithin 122 = .ok (.putfield 92, 3) := by decide +kernel
theorem dX6_findWithin_125 : decode cX6_findWithin 125 = .ok (.iinc 3 1, 3) := by decide +kernel
theorem dX6_findWithin_128 : decode cX6_findWithin 128 = .ok (.goto (-70), 3) := by decide +kernel
theorem dX6_findWithin_131 : decode cX6_findWithin 131 = .ok (.return_, 1) := by decide +kernel
theorem dX6_findWorth_0 : decode cX6_findWorth 0 = .ok (.iconst 1, 1) := by decide +kernel
theorem dX6_findWorth_1 : decode cX6_findWorth 1 = .ok (.istore 5, 2) := by decide +kernel
theorem dX6_findWorth_3 : decode cX6_findWorth 3 = .ok (.iconst 0, 1) := by decide +kernel
theorem dX6_findWorth_4 : decode cX6_findWorth 4 = .ok (.istore 6, 2) := by decide +kernel
theorem dX6_findWorth_6 : decode cX6_findWorth 6 = .ok (.iload 5, 2) := by decide +kernel
theorem dX6_findWorth_8 : decode cX6_findWorth 8 = .ok (.ifCond .eq 44, 3) := by decide +kernel
theorem dX6_findWorth_11 : decode cX6_findWorth 11 = .ok (.iload 6, 2) := by decide +kernel
theorem dX6_findWorth_13 : decode cX6_findWorth 13 = .ok (.sipush 6561, 3) := by decide +kernel
theorem dX6_findWorth_16 : decode cX6_findWorth 16 = .ok (.if_icmp .ge 36, 3) := by decide +kernel
theorem dX6_findWorth_19 : decode cX6_findWorth 19 = .ok (.aload_n 0, 1) := by decide +kernel
theorem dX6_findWorth_20 : decode cX6_findWorth 20 = .ok (.aload_n 1, 1) := by decide +kernel
theorem dX6_findWorth_21 : decode cX6_findWorth 21 = .ok (.iload_n 2, 1) := by decide +kernel
theorem dX6_findWorth_22 : decode cX6_findWorth 22 = .ok (.iload_n 3, 1) := by decide +kernel
theorem dX6_findWorth_23 : decode cX6_findWorth 23 = .ok (.aload 4, 2) := by decide +kernel
theorem dX6_findWorth_25 : decode cX6_findWorth 25 = .ok (.invokevirtual 53, 3) := by decide +kernel
theorem dX6_findWorth_28 : decode cX6_findWorth 28 = .ok (.aload_n 0, 1) := by decide +kernel
theorem dX6_findWorth_29 : decode cX6_findWorth 29 = .ok (.iconst 1, 1) := by decide +kernel
theorem dX6_findWorth_30 : decode cX6_findWorth 30 = .ok (.aload_n 1, 1) := by decide +kernel
theorem dX6_findWorth_31 : decode cX6_findWorth 31 = .ok (.aload 4, 2) := by decide +kernel
theorem dX6_findWorth_33 : decode cX6_findWorth 33 = .ok (.invokevirtual 57, 3) := by decide +kernel
theorem dX6_findWorth_36 : decode cX6_findWorth 36 = .ok (.ifCond .le 7, 3) := by decide +kernel
theorem dX6_findWorth_39 : decode cX6_findWorth 39 = .ok (.iconst 1, 1) := by decide +kernel
theorem dX6_findWorth_40 : decode cX6_findWorth 40 = .ok (.goto 4, 3) := by decide +kernel
theorem dX6_findWorth_43 : decode cX6_findWorth 43 = .ok (.iconst 0, 1) := by decide +kernel
theorem dX6_findWorth_44 : decode cX6_findWorth 44 = .ok (.istore 5, 2) := by decide +kernel
theorem dX6_findWorth_46 : decode cX6_findWorth 46 = .ok (.iinc 6 1, 3) := by decide +kernel
theorem dX6_findWorth_49 : decode cX6_findWorth 49 = .ok (.goto (-43), 3) := by decide +kernel
theorem dX6_findWorth_52 : decode cX6_findWorth 52 = .ok (.return_, 1) := by decide +kernel
theorem dX6_firstWays_0 : decode cX6_firstWays 0 = .ok (.iconst 0, 1) := by decide +kernel
theorem dX6_firstWays_1 : decode cX6_firstWays 1 = .ok (.istore_n 2, 1) := by decide +kernel
theorem dX6_firstWays_2 : decode cX6_firstWays 2 = .ok (.iload_n 2, 1) := by decide +kernel
theorem dX6_firstWays_3 : decode cX6_firstWays 3 = .ok (.aload_n 0, 1) := by decide +kernel
theorem dX6_firstWays_4 : decode cX6_firstWays 4 = .ok (.getfield 19, 3) := by decide +kernel
theorem dX6_firstWays_7 : decode cX6_firstWays 7 = .ok (.getfield 32, 3) := by decide +kernel
theorem dX6_firstWays_10 : decode cX6_firstWays 10 = .ok (.if_icmp .ge 38, 3) := by decide +kernel
theorem dX6_firstWays_13 : decode cX6_firstWays 13 = .ok (.aload_n 1, 1) := by decide +kernel
theorem dX6_firstWays_14 : decode cX6_firstWays 14 = .ok (.iload_n 2, 1) := by decide +kernel
theorem dX6_firstWays_15 : decode cX6_firstWays 15 = .ok (.aload_n 0, 1) := by decide +kernel
theorem dX6_firstWays_16 : decode cX6_firstWays 16 = .ok (.getfield 19, 3) := by decide +kernel
theorem dX6_firstWays_19 : decode cX6_firstWays 19 = .ok (.getfield 38, 3) := by decide +kernel
theorem dX6_firstWays_22 : decode cX6_firstWays 22 = .ok (.iload_n 2, 1) := by decide +kernel
theorem dX6_firstWays_23 : decode cX6_firstWays 23 = .ok (.iaload, 1) := by decide +kernel
theorem dX6_firstWays_24 : decode cX6_firstWays 24 = .ok (.iconst (-1), 1) := by decide +kernel
theorem dX6_firstWays_25 : decode cX6_firstWays 25 = .ok (.if_icmp .ne 7, 3) := by decide +kernel
theorem dX6_firstWays_28 : decode cX6_firstWays 28 = .ok (.iconst 0, 1) := by decide +kernel
theorem dX6_firstWays_29 : decode cX6_firstWays 29 = .ok (.goto 12, 3) := by decide +kernel
theorem dX6_firstWays_32 : decode cX6_firstWays 32 = .ok (.aload_n 0, 1) := by decide +kernel
theorem dX6_firstWays_33 : decode cX6_firstWays 33 = .ok (.getfield 19, 3) := by decide +kernel
theorem dX6_firstWays_36 : decode cX6_firstWays 36 = .ok (.getfield 38, 3) := by decide +kernel
theorem dX6_firstWays_39 : decode cX6_firstWays 39 = .ok (.iload_n 2, 1) := by decide +kernel
theorem dX6_firstWays_40 : decode cX6_firstWays 40 = .ok (.iaload, 1) := by decide +kernel
theorem dX6_firstWays_41 : decode cX6_firstWays 41 = .ok (.iastore, 1) := by decide +kernel
theorem dX6_firstWays_42 : decode cX6_firstWays 42 = .ok (.iinc 2 1, 3) := by decide +kernel
theorem dX6_firstWays_45 : decode cX6_firstWays 45 = .ok (.goto (-43), 3) := by decide +kernel
theorem dX6_firstWays_48 : decode cX6_firstWays 48 = .ok (.return_, 1) := by decide +kernel
theorem dX6_goodOf_0 : decode cX6_goodOf 0 = .ok (.aload_n 0, 1) := by decide +kernel
theorem dX6_goodOf_1 : decode cX6_goodOf 1 = .ok (.getfield 9, 3) := by decide +kernel
theorem dX6_goodOf_4 : decode cX6_goodOf 4 = .ok (.iload_n 1, 1) := by decide +kernel
theorem dX6_goodOf_5 : decode cX6_goodOf 5 = .ok (.iaload, 1) := by decide +kernel
theorem dX6_goodOf_6 : decode cX6_goodOf 6 = .ok (.istore_n 3, 1) := by decide +kernel
theorem dX6_goodOf_7 : decode cX6_goodOf 7 = .ok (.aload_n 0, 1) := by decide +kernel
theorem dX6_goodOf_8 : decode cX6_goodOf 8 = .ok (.getfield 19, 3) := by decide +kernel
theorem dX6_goodOf_11 : decode cX6_goodOf 11 = .ok (.getfield 61, 3) := by decide +kernel
theorem dX6_goodOf_14 : decode cX6_goodOf 14 = .ok (.iload_n 1, 1) := by decide +kernel
theorem dX6_goodOf_15 : decode cX6_goodOf 15 = .ok (.iaload, 1) := by decide +kernel
theorem dX6_goodOf_16 : decode cX6_goodOf 16 = .ok (.iconst 2, 1) := by decide +kernel
theorem dX6_goodOf_17 : decode cX6_goodOf 17 = .ok (.if_icmp .ne 5, 3) := by decide +kernel
theorem dX6_goodOf_20 : decode cX6_goodOf 20 = .ok (.iload_n 3, 1) := by decide +kernel
theorem dX6_goodOf_21 : decode cX6_goodOf 21 = .ok (.ireturn, 1) := by decide +kernel
theorem dX6_goodOf_22 : decode cX6_goodOf 22 = .ok (.iconst 0, 1) := by decide +kernel
theorem dX6_goodOf_23 : decode cX6_goodOf 23 = .ok (.istore 4, 2) := by decide +kernel
theorem dX6_goodOf_25 : decode cX6_goodOf 25 = .ok (.iconst 0, 1) := by decide +kernel
theorem dX6_goodOf_26 : decode cX6_goodOf 26 = .ok (.istore 5, 2) := by decide +kernel
theorem dX6_goodOf_28 : decode cX6_goodOf 28 = .ok (.iload 5, 2) := by decide +kernel
theorem dX6_goodOf_30 : decode cX6_goodOf 30 = .ok (.aload_n 0, 1) := by decide +kernel
theorem dX6_goodOf_31 : decode cX6_goodOf 31 = .ok (.getfield 19, 3) := by decide +kernel
theorem dX6_goodOf_34 : decode cX6_goodOf 34 = .ok (.getfield 68, 3) := by decide +kernel
theorem dX6_goodOf_37 : decode cX6_goodOf 37 = .ok (.iload_n 1, 1) := by decide +kernel
theorem dX6_goodOf_38 : decode cX6_goodOf 38 = .ok (.iaload, 1) := by decide +kernel
theorem dX6_goodOf_39 : decode cX6_goodOf 39 = .ok (.if_icmp .ge 47, 3) := by decide +kernel
theorem dX6_goodOf_42 : decode cX6_goodOf 42 = .ok (.aload_n 0, 1) := by decide +kernel
theorem dX6_goodOf_43 : decode cX6_goodOf 43 = .ok (.getfield 9, 3) := by decide +kernel
theorem dX6_goodOf_46 : decode cX6_goodOf 46 = .ok (.iload_n 1, 1) := by decide +kernel
theorem dX6_goodOf_47 : decode cX6_goodOf 47 = .ok (.iload_n 3, 1) := by decide +kernel
theorem dX6_goodOf_48 : decode cX6_goodOf 48 = .ok (.iconst 1, 1) := by decide +kernel
theorem dX6_goodOf_49 : decode cX6_goodOf 49 = .ok (.iload 5, 2) := by decide +kernel
theorem dX6_goodOf_51 : decode cX6_goodOf 51 = .ok (.ishl, 1) := by decide +kernel
theorem dX6_goodOf_52 : decode cX6_goodOf 52 = .ok (.iand, 1) := by decide +kernel
theorem dX6_goodOf_53 : decode cX6_goodOf 53 = .ok (.iastore, 1) := by decide +kernel
theorem dX6_goodOf_54 : decode cX6_goodOf 54 = .ok (.aload_n 0, 1) := by decide +kernel
theorem dX6_goodOf_55 : decode cX6_goodOf 55 = .ok (.getfield 9, 3) := by decide +kernel
theorem dX6_goodOf_58 : decode cX6_goodOf 58 = .ok (.iload_n 1, 1) := by decide +kernel
theorem dX6_goodOf_59 : decode cX6_goodOf 59 = .ok (.iaload, 1) := by decide +kernel
theorem dX6_goodOf_60 : decode cX6_goodOf 60 = .ok (.ifCond .eq 20, 3) := by decide +kernel
theorem dX6_goodOf_63 : decode cX6_goodOf 63 = .ok (.aload_n 0, 1) := by decide +kernel
theorem dX6_goodOf_64 : decode cX6_goodOf 64 = .ok (.aload_n 2, 1) := by decide +kernel
theorem dX6_goodOf_65 : decode cX6_goodOf 65 = .ok (.invokevirtual 132, 3) := by decide +kernel
theorem dX6_goodOf_68 : decode cX6_goodOf 68 = .ok (.ifCond .eq 12, 3) := by decide +kernel
theorem dX6_goodOf_71 : decode cX6_goodOf 71 = .ok (.iload 4, 2) := by decide +kernel
theorem dX6_goodOf_73 : decode cX6_goodOf 73 = .ok (.iconst 1, 1) := by decide +kernel
theorem dX6_goodOf_74 : decode cX6_goodOf 74 = .ok (.iload 5, 2) := by decide +kernel
theorem dX6_goodOf_76 : decode cX6_goodOf 76 = .ok (.ishl, 1) := by decide +kernel
theorem dX6_goodOf_77 : decode cX6_goodOf 77 = .ok (.ior, 1) := by decide +kernel
theorem dX6_goodOf_78 : decode cX6_goodOf 78 = .ok (.istore 4, 2) := by decide +kernel
theorem dX6_goodOf_80 : decode cX6_goodOf 80 = .ok (.iinc 5 1, 3) := by decide +kernel
theorem dX6_goodOf_83 : decode cX6_goodOf 83 = .ok (.goto (-55), 3) := by decide +kernel
theorem dX6_goodOf_86 : decode cX6_goodOf 86 = .ok (.aload_n 0, 1) := by decide +kernel
theorem dX6_goodOf_87 : decode cX6_goodOf 87 = .ok (.getfield 9, 3) := by decide +kernel
theorem dX6_goodOf_90 : decode cX6_goodOf 90 = .ok (.iload_n 1, 1) := by decide +kernel
theorem dX6_goodOf_91 : decode cX6_goodOf 91 = .ok (.iload_n 3, 1) := by decide +kernel
theorem dX6_goodOf_92 : decode cX6_goodOf 92 = .ok (.iastore, 1) := by decide +kernel
theorem dX6_goodOf_93 : decode cX6_goodOf 93 = .ok (.iload 4, 2) := by decide +kernel
theorem dX6_goodOf_95 : decode cX6_goodOf 95 = .ok (.ireturn, 1) := by decide +kernel
theorem dX6_goodWays_0 : decode cX6_goodWays 0 = .ok (.aload_n 0, 1) := by decide +kernel
theorem dX6_goodWays_1 : decode cX6_goodWays 1 = .ok (.aload_n 2, 1) := by decide +kernel
theorem dX6_goodWays_2 : decode cX6_goodWays 2 = .ok (.invokevirtual 117, 3) := by decide +kernel
theorem dX6_goodWays_5 : decode cX6_goodWays 5 = .ok (.aload_n 0, 1) := by decide +kernel
theorem dX6_goodWays_6 : decode cX6_goodWays 6 = .ok (.iload_n 1, 1) := by decide +kernel
theorem dX6_goodWays_7 : decode cX6_goodWays 7 = .ok (.aload_n 2, 1) := by decide +kernel
theorem dX6_goodWays_8 : decode cX6_goodWays 8 = .ok (.invokevirtual 124, 3) := by decide +kernel
theorem dX6_goodWays_11 : decode cX6_goodWays 11 = .ok (.ireturn, 1) := by decide +kernel
theorem dX6_isBrought_0 : decode cX6_isBrought 0 = .ok (.iconst 0, 1) := by decide +kernel
theorem dX6_isBrought_1 : decode cX6_isBrought 1 = .ok (.istore 4, 2) := by decide +kernel
theorem dX6_isBrought_3 : decode cX6_isBrought 3 = .ok (.iconst 1, 1) := by decide +kernel
theorem dX6_isBrought_4 : decode cX6_isBrought 4 = .ok (.istore 5, 2) := by decide +kernel
theorem dX6_isBrought_6 : decode cX6_isBrought 6 = .ok (.iconst 0, 1) := by decide +kernel
theorem dX6_isBrought_7 : decode cX6_isBrought 7 = .ok (.istore 6, 2) := by decide +kernel
theorem dX6_isBrought_9 : decode cX6_isBrought 9 = .ok (.iload 6, 2) := by decide +kernel
theorem dX6_isBrought_11 : decode cX6_isBrought 11 = .ok (.aload_n 0, 1) := by decide +kernel
theorem dX6_isBrought_12 : decode cX6_isBrought 12 = .ok (.getfield 19, 3) := by decide +kernel
theorem dX6_isBrought_15 : decode cX6_isBrought 15 = .ok (.getfield 68, 3) := by decide +kernel
theorem dX6_isBrought_18 : decode cX6_isBrought 18 = .ok (.iload_n 1, 1) := by decide +kernel
theorem dX6_isBrought_19 : decode cX6_isBrought 19 = .ok (.iaload, 1) := by decide +kernel
theorem dX6_isBrought_20 : decode cX6_isBrought 20 = .ok (.if_icmp .ge 113, 3) := by decide +kernel
theorem dX6_isBrought_23 : decode cX6_isBrought 23 = .ok (.aload_n 0, 1) := by decide +kernel
theorem dX6_isBrought_24 : decode cX6_isBrought 24 = .ok (.getfield 19, 3) := by decide +kernel
theorem dX6_isBrought_27 : decode cX6_isBrought 27 = .ok (.iload_n 1, 1) := by decide +kernel
theorem dX6_isBrought_28 : decode cX6_isBrought 28 = .ok (.iload 6, 2) := by decide +kernel
theorem dX6_isBrought_30 : decode cX6_isBrought 30 = .ok (.invokevirtual 76, 3) := by decide +kernel
theorem dX6_isBrought_33 : decode cX6_isBrought 33 = .ok (.istore 7, 2) := by decide +kernel
theorem dX6_isBrought_35 : decode cX6_isBrought 35 = .ok (.iload_n 2, 1) := by decide +kernel
theorem dX6_isBrought_36 : decode cX6_isBrought 36 = .ok (.iload 7, 2) := by decide +kernel
theorem dX6_isBrought_38 : decode cX6_isBrought 38 = .ok (.ishr, 1) := by decide +kernel
theorem dX6_isBrought_39 : decode cX6_isBrought 39 = .ok (.iconst 1, 1) := by decide +kernel
theorem dX6_isBrought_40 : decode cX6_isBrought 40 = .ok (.iand, 1) := by decide +kernel
theorem dX6_isBrought_41 : decode cX6_isBrought 41 = .ok (.ifCond .eq 7, 3) := by decide +kernel
theorem dX6_isBrought_44 : decode cX6_isBrought 44 = .ok (.iconst 1, 1) := by decide +kernel
theorem dX6_isBrought_45 : decode cX6_isBrought 45 = .ok (.goto 4, 3) := by decide +kernel
theorem dX6_isBrought_48 : decode cX6_isBrought 48 = .ok (.iconst 0, 1) := by decide +kernel
theorem dX6_isBrought_49 : decode cX6_isBrought 49 = .ok (.istore 8, 2) := by decide +kernel
theorem dX6_isBrought_51 : decode cX6_isBrought 51 = .ok (.aload_n 0, 1) := by decide +kernel
theorem dX6_isBrought_52 : decode cX6_isBrought 52 = .ok (.getfield 19, 3) := by decide +kernel
theorem dX6_isBrought_55 : decode cX6_isBrought 55 = .ok (.getfield 61, 3) := by decide +kernel
theorem dX6_isBrought_58 : decode cX6_isBrought 58 = .ok (.iload_n 1, 1) := by decide +kernel
theorem dX6_isBrought_59 : decode cX6_isBrought 59 = .ok (.iaload, 1) := by decide +kernel
theorem dX6_isBrought_60 : decode cX6_isBrought 60 = .ok (.iconst 3, 1) := by decide +kernel
theorem dX6_isBrought_61 : decode cX6_isBrought 61 = .ok (.if_icmp .ne 38, 3) := by decide +kernel
theorem dX6_isBrought_64 : decode cX6_isBrought 64 = .ok (.iload 4, 2) := by decide +kernel
theorem dX6_isBrought_66 : decode cX6_isBrought 66 = .ok (.iload 8, 2) := by decide +kernel
theorem dX6_isBrought_68 : decode cX6_isBrought 68 = .ok (.ifCond .ne 20, 3) := by decide +kernel
theorem dX6_isBrought_71 : decode cX6_isBrought 71 = .ok (.aload_n 3, 1) := by decide +kernel
theorem dX6_isBrought_72 : decode cX6_isBrought 72 = .ok (.getfield 71, 3) := by decide +kernel
theorem dX6_isBrought_75 : decode cX6_isBrought 75 = .ok (.iload 7, 2) := by decide +kernel
theorem dX6_isBrought_77 : decode cX6_isBrought 77 = .ok (.laload, 1) := by decide +kernel
theorem dX6_isBrought_78 : decode cX6_isBrought 78 = .ok (.aload_n 3, 1) := by decide +kernel
theorem dX6_isBrought_79 : decode cX6_isBrought 79 = .ok (.getfield 71, 3) := by decide +kernel
theorem dX6_isBrought_82 : decode cX6_isBrought 82 = .ok (.iload_n 1, 1) := by decide +kernel
theorem dX6_isBrought_83 : decode cX6_isBrought 83 = .ok (.laload, 1) := by decide +kernel
theorem dX6_isBrought_84 : decode cX6_isBrought 84 = .ok (.lcmp, 1) := by decide +kernel
theorem dX6_isBrought_85 : decode cX6_isBrought 85 = .ok (.ifCond .eq 7, 3) := by decide +kernel
theorem dX6_isBrought_88 : decode cX6_isBrought 88 = .ok (.iconst 1, 1) := by decide +kernel
theorem dX6_isBrought_89 : decode cX6_isBrought 89 = .ok (.goto 4, 3) := by decide +kernel
theorem dX6_isBrought_92 : decode cX6_isBrought 92 = .ok (.iconst 0, 1) := by decide +kernel
theorem dX6_isBrought_93 : decode cX6_isBrought 93 = .ok (.ior, 1) := by decide +kernel
theorem dX6_isBrought_94 : decode cX6_isBrought 94 = .ok (.istore 4, 2) := by decide +kernel
theorem dX6_isBrought_96 : decode cX6_isBrought 96 = .ok (.goto 31, 3) := by decide +kernel
theorem dX6_isBrought_99 : decode cX6_isBrought 99 = .ok (.aload_n 0, 1) := by decide +kernel
theorem dX6_isBrought_100 : decode cX6_isBrought 100 = .ok (.getfield 9, 3) := by decide +kernel
theorem dX6_isBrought_103 : decode cX6_isBrought 103 = .ok (.iload_n 1, 1) := by decide +kernel
theorem dX6_isBrought_104 : decode cX6_isBrought 104 = .ok (.iaload, 1) := by decide +kernel
theorem dX6_isBrought_105 : decode cX6_isBrought 105 = .ok (.iload 6, 2) := by decide +kernel
theorem dX6_isBrought_107 : decode cX6_isBrought 107 = .ok (.ishr, 1) := by decide +kernel
theorem dX6_isBrought_108 : decode cX6_isBrought 108 = .ok (.iconst 1, 1) := by decide +kernel
theorem dX6_isBrought_109 : decode cX6_isBrought 109 = .ok (.iand, 1) := by decide +kernel
theorem dX6_isBrought_110 : decode cX6_isBrought 110 = .ok (.ifCond .eq 17, 3) := by decide +kernel
theorem dX6_isBrought_113 : decode cX6_isBrought 113 = .ok (.iload 4, 2) := by decide +kernel
theorem dX6_isBrought_115 : decode cX6_isBrought 115 = .ok (.iload 8, 2) := by decide +kernel
theorem dX6_isBrought_117 : decode cX6_isBrought 117 = .ok (.ior, 1) := by decide +kernel
theorem dX6_isBrought_118 : decode cX6_isBrought 118 = .ok (.istore 4, 2) := by decide +kernel
theorem dX6_isBrought_120 : decode cX6_isBrought 120 = .ok (.iload 5, 2) := by decide +kernel
theorem dX6_isBrought_122 : decode cX6_isBrought 122 = .ok (.iload 8, 2) := by decide +kernel
theorem dX6_isBrought_124 : decode cX6_isBrought 124 = .ok (.iand, 1) := by decide +kernel
theorem dX6_isBrought_125 : decode cX6_isBrought 125 = .ok (.istore 5, 2) := by decide +kernel
theorem dX6_isBrought_127 : decode cX6_isBrought 127 = .ok (.iinc 6 1, 3) := by decide +kernel
theorem dX6_isBrought_130 : decode cX6_isBrought 130 = .ok (.goto (-121), 3) := by decide +kernel
theorem dX6_isBrought_133 : decode cX6_isBrought 133 = .ok (.aload_n 0, 1) := by decide +kernel
theorem dX6_isBrought_134 : decode cX6_isBrought 134 = .ok (.getfield 19, 3) := by decide +kernel
theorem dX6_isBrought_137 : decode cX6_isBrought 137 = .ok (.getfield 61, 3) := by decide +kernel
theorem dX6_isBrought_140 : decode cX6_isBrought 140 = .ok (.iload_n 1, 1) := by decide +kernel
theorem dX6_isBrought_141 : decode cX6_isBrought 141 = .ok (.iaload, 1) := by decide +kernel
theorem dX6_isBrought_142 : decode cX6_isBrought 142 = .ok (.iconst 2, 1) := by decide +kernel
theorem dX6_isBrought_143 : decode cX6_isBrought 143 = .ok (.if_icmp .ne 21, 3) := by decide +kernel
theorem dX6_isBrought_146 : decode cX6_isBrought 146 = .ok (.iload 4, 2) := by decide +kernel
theorem dX6_isBrought_148 : decode cX6_isBrought 148 = .ok (.ifCond .eq 12, 3) := by decide +kernel
theorem dX6_isBrought_151 : decode cX6_isBrought 151 = .ok (.iload 5, 2) := by decide +kernel
theorem dX6_isBrought_153 : decode cX6_isBrought 153 = .ok (.ifCond .eq 7, 3) := by decide +kernel
theorem dX6_isBrought_156 : decode cX6_isBrought 156 = .ok (.iconst 1, 1) := by decide +kernel
theorem dX6_isBrought_157 : decode cX6_isBrought 157 = .ok (.goto 9, 3) := by decide +kernel
theorem dX6_isBrought_160 : decode cX6_isBrought 160 = .ok (.iconst 0, 1) := by decide +kernel
theorem dX6_isBrought_161 : decode cX6_isBrought 161 = .ok (.goto 5, 3) := by decide +kernel
theorem dX6_isBrought_164 : decode cX6_isBrought 164 = .ok (.iload 4, 2) := by decide +kernel
theorem dX6_isBrought_166 : decode cX6_isBrought 166 = .ok (.ireturn, 1) := by decide +kernel
theorem dX6_keepEven_0 : decode cX6_keepEven 0 = .ok (.iconst 0, 1) := by decide +kernel
theorem dX6_keepEven_1 : decode cX6_keepEven 1 = .ok (.istore_n 2, 1) := by decide +kernel
theorem dX6_keepEven_2 : decode cX6_keepEven 2 = .ok (.iload_n 2, 1) := by decide +kernel
theorem dX6_keepEven_3 : decode cX6_keepEven 3 = .ok (.aload_n 0, 1) := by decide +kernel
theorem dX6_keepEven_4 : decode cX6_keepEven 4 = .ok (.getfield 19, 3) := by decide +kernel
theorem dX6_keepEven_7 : decode cX6_keepEven 7 = .ok (.getfield 32, 3) := by decide +kernel
theorem dX6_keepEven_10 : decode cX6_keepEven 10 = .ok (.if_icmp .ge 85, 3) := by decide +kernel
theorem dX6_keepEven_13 : decode cX6_keepEven 13 = .ok (.aload_n 0, 1) := by decide +kernel
theorem dX6_keepEven_14 : decode cX6_keepEven 14 = .ok (.getfield 9, 3) := by decide +kernel
theorem dX6_keepEven_17 : decode cX6_keepEven 17 = .ok (.iload_n 2, 1) := by decide +kernel
theorem dX6_keepEven_18 : decode cX6_keepEven 18 = .ok (.iconst 0, 1) := by decide +kernel
theorem dX6_keepEven_19 : decode cX6_keepEven 19 = .ok (.iastore, 1) := by decide +kernel
theorem dX6_keepEven_20 : decode cX6_keepEven 20 = .ok (.iconst 0, 1) := by decide +kernel
theorem dX6_keepEven_21 : decode cX6_keepEven 21 = .ok (.istore_n 3, 1) := by decide +kernel
theorem dX6_keepEven_22 : decode cX6_keepEven 22 = .ok (.iload_n 3, 1) := by decide +kernel
theorem dX6_keepEven_23 : decode cX6_keepEven 23 = .ok (.aload_n 0, 1) := by decide +kernel
theorem dX6_keepEven_24 : decode cX6_keepEven 24 = .ok (.getfield 19, 3) := by decide +kernel
theorem dX6_keepEven_27 : decode cX6_keepEven 27 = .ok (.getfield 68, 3) := by decide +kernel
theorem dX6_keepEven_30 : decode cX6_keepEven 30 = .ok (.iload_n 2, 1) := by decide +kernel
theorem dX6_keepEven_31 : decode cX6_keepEven 31 = .ok (.iaload, 1) := by decide +kernel
theorem dX6_keepEven_32 : decode cX6_keepEven 32 = .ok (.if_icmp .ge 57, 3) := by decide +kernel
theorem dX6_keepEven_35 : decode cX6_keepEven 35 = .ok (.aload_n 0, 1) := by decide +kernel
theorem dX6_keepEven_36 : decode cX6_keepEven 36 = .ok (.getfield 19, 3) := by decide +kernel
theorem dX6_keepEven_39 : decode cX6_keepEven 39 = .ok (.iload_n 2, 1) := by decide +kernel
theorem dX6_keepEven_40 : decode cX6_keepEven 40 = .ok (.iload_n 3, 1) := by decide +kernel
theorem dX6_keepEven_41 : decode cX6_keepEven 41 = .ok (.invokevirtual 128, 3) := by decide +kernel
theorem dX6_keepEven_44 : decode cX6_keepEven 44 = .ok (.ifCond .eq 39, 3) := by decide +kernel
theorem dX6_keepEven_47 : decode cX6_keepEven 47 = .ok (.aload_n 1, 1) := by decide +kernel
theorem dX6_keepEven_48 : decode cX6_keepEven 48 = .ok (.getfield 71, 3) := by decide +kernel
theorem dX6_keepEven_51 : decode cX6_keepEven 51 = .ok (.aload_n 0, 1) := by decide +kernel
theorem dX6_keepEven_52 : decode cX6_keepEven 52 = .ok (.getfield 19, 3) := by decide +kernel
theorem dX6_keepEven_55 : decode cX6_keepEven 55 = .ok (.iload_n 2, 1) := by decide +kernel
theorem dX6_keepEven_56 : decode cX6_keepEven 56 = .ok (.iload_n 3, 1) := by decide +kernel
theorem dX6_keepEven_57 : decode cX6_keepEven 57 = .ok (.invokevirtual 76, 3) := by decide +kernel
theorem dX6_keepEven_60 : decode cX6_keepEven 60 = .ok (.laload, 1) := by decide +kernel
theorem dX6_keepEven_61 : decode cX6_keepEven 61 = .ok (.aload_n 1, 1) := by decide +kernel
theorem dX6_keepEven_62 : decode cX6_keepEven 62 = .ok (.getfield 71, 3) := by decide +kernel
theorem dX6_keepEven_65 : decode cX6_keepEven 65 = .ok (.iload_n 2, 1) := by decide +kernel
theorem dX6_keepEven_66 : decode cX6_keepEven 66 = .ok (.laload, 1) := by decide +kernel
theorem dX6_keepEven_67 : decode cX6_keepEven 67 = .ok (.lcmp, 1) := by decide +kernel
theorem dX6_keepEven_68 : decode cX6_keepEven 68 = .ok (.ifCond .ne 15, 3) := by decide +kernel
theorem dX6_keepEven_71 : decode cX6_keepEven 71 = .ok (.aload_n 0, 1) := by decide +kernel
theorem dX6_keepEven_72 : decode cX6_keepEven 72 = .ok (.getfield 9, 3) := by decide +kernel
theorem dX6_keepEven_75 : decode cX6_keepEven 75 = .ok (.iload_n 2, 1) := by decide +kernel
theorem dX6_keepEven_76 : decode cX6_keepEven 76 = .ok (.dup2, 1) := by decide +kernel
theorem dX6_keepEven_77 : decode cX6_keepEven 77 = .ok (.iaload, 1) := by decide +kernel
theorem dX6_keepEven_78 : decode cX6_keepEven 78 = .ok (.iconst 1, 1) := by decide +kernel
theorem dX6_keepEven_79 : decode cX6_keepEven 79 = .ok (.iload_n 3, 1) := by decide +kernel
theorem dX6_keepEven_80 : decode cX6_keepEven 80 = .ok (.ishl, 1) := by decide +kernel
theorem dX6_keepEven_81 : decode cX6_keepEven 81 = .ok (.ior, 1) := by decide +kernel
theorem dX6_keepEven_82 : decode cX6_keepEven 82 = .ok (.iastore, 1) := by decide +kernel
theorem dX6_keepEven_83 : decode cX6_keepEven 83 = .ok (.iinc 3 1, 3) := by decide +kernel
theorem dX6_keepEven_86 : decode cX6_keepEven 86 = .ok (.goto (-64), 3) := by decide +kernel
theorem dX6_keepEven_89 : decode cX6_keepEven 89 = .ok (.iinc 2 1, 3) := by decide +kernel
theorem dX6_keepEven_92 : decode cX6_keepEven 92 = .ok (.goto (-90), 3) := by decide +kernel
theorem dX6_keepEven_95 : decode cX6_keepEven 95 = .ok (.return_, 1) := by decide +kernel
theorem dX6_lowest_0 : decode cX6_lowest 0 = .ok (.iconst 0, 1) := by decide +kernel
theorem dX6_lowest_1 : decode cX6_lowest 1 = .ok (.istore_n 1, 1) := by decide +kernel
theorem dX6_lowest_2 : decode cX6_lowest 2 = .ok (.iload_n 1, 1) := by decide +kernel
theorem dX6_lowest_3 : decode cX6_lowest 3 = .ok (.iconst 3, 1) := by decide +kernel
theorem dX6_lowest_4 : decode cX6_lowest 4 = .ok (.if_icmp .ge 19, 3) := by decide +kernel
theorem dX6_lowest_7 : decode cX6_lowest 7 = .ok (.iload_n 0, 1) := by decide +kernel
theorem dX6_lowest_8 : decode cX6_lowest 8 = .ok (.iload_n 1, 1) := by decide +kernel
theorem dX6_lowest_9 : decode cX6_lowest 9 = .ok (.ishr, 1) := by decide +kernel
theorem dX6_lowest_10 : decode cX6_lowest 10 = .ok (.iconst 1, 1) := by decide +kernel
theorem dX6_lowest_11 : decode cX6_lowest 11 = .ok (.iand, 1) := by decide +kernel
theorem dX6_lowest_12 : decode cX6_lowest 12 = .ok (.ifCond .eq 5, 3) := by decide +kernel
theorem dX6_lowest_15 : decode cX6_lowest 15 = .ok (.iload_n 1, 1) := by decide +kernel
theorem dX6_lowest_16 : decode cX6_lowest 16 = .ok (.ireturn, 1) := by decide +kernel
theorem dX6_lowest_17 : decode cX6_lowest 17 = .ok (.iinc 1 1, 3) := by decide +kernel
theorem dX6_lowest_20 : decode cX6_lowest 20 = .ok (.goto (-18), 3) := by decide +kernel
theorem dX6_lowest_23 : decode cX6_lowest 23 = .ok (.iconst 0, 1) := by decide +kernel
theorem dX6_lowest_24 : decode cX6_lowest 24 = .ok (.ireturn, 1) := by decide +kernel
theorem dX6_oneMoveMore_0 : decode cX6_oneMoveMore 0 = .ok (.aload_n 0, 1) := by decide +kernel
theorem dX6_oneMoveMore_1 : decode cX6_oneMoveMore 1 = .ok (.getfield 19, 3) := by decide +kernel
theorem dX6_oneMoveMore_4 : decode cX6_oneMoveMore 4 = .ok (.getfield 61, 3) := by decide +kernel
theorem dX6_oneMoveMore_7 : decode cX6_oneMoveMore 7 = .ok (.iload_n 1, 1) := by decide +kernel
theorem dX6_oneMoveMore_8 : decode cX6_oneMoveMore 8 = .ok (.iaload, 1) := by decide +kernel
theorem dX6_oneMoveMore_9 : decode cX6_oneMoveMore 9 = .ok (.ifCond .ne 14, 3) := by decide +kernel
theorem dX6_oneMoveMore_12 : decode cX6_oneMoveMore 12 = .ok (.ldc2_w 109, 3) := by decide +kernel
theorem dX6_oneMoveMore_15 : decode cX6_oneMoveMore 15 = .ok (.aload_n 2, 1) := by decide +kernel
theorem dX6_oneMoveMore_16 : decode cX6_oneMoveMore 16 = .ok (.getfield 71, 3) := by decide +kernel
theorem dX6_oneMoveMore_19 : decode cX6_oneMoveMore 19 = .ok (.iload_n 1, 1) := by decide +kernel
theorem dX6_oneMoveMore_20 : decode cX6_oneMoveMore 20 = .ok (.laload, 1) := by decide +kernel
theorem dX6_oneMoveMore_21 : decode cX6_oneMoveMore 21 = .ok (.lmul, 1) := by decide +kernel
theorem dX6_oneMoveMore_22 : decode cX6_oneMoveMore 22 = .ok (.lreturn, 1) := by decide +kernel
theorem dX6_oneMoveMore_23 : decode cX6_oneMoveMore 23 = .ok (.aload_n 0, 1) := by decide +kernel
theorem dX6_oneMoveMore_24 : decode cX6_oneMoveMore 24 = .ok (.getfield 19, 3) := by decide +kernel
theorem dX6_oneMoveMore_27 : decode cX6_oneMoveMore 27 = .ok (.getfield 61, 3) := by decide +kernel
theorem dX6_oneMoveMore_30 : decode cX6_oneMoveMore 30 = .ok (.iload_n 1, 1) := by decide +kernel
theorem dX6_oneMoveMore_31 : decode cX6_oneMoveMore 31 = .ok (.iaload, 1) := by decide +kernel
theorem dX6_oneMoveMore_32 : decode cX6_oneMoveMore 32 = .ok (.iconst 3, 1) := by decide +kernel
theorem dX6_oneMoveMore_33 : decode cX6_oneMoveMore 33 = .ok (.if_icmp .eq 76, 3) := by decide +kernel
theorem dX6_oneMoveMore_36 : decode cX6_oneMoveMore 36 = .ok (.aload_n 0, 1) := by decide +kernel
theorem dX6_oneMoveMore_37 : decode cX6_oneMoveMore 37 = .ok (.getfield 19, 3) := by decide +kernel
theorem dX6_oneMoveMore_40 : decode cX6_oneMoveMore 40 = .ok (.getfield 38, 3) := by decide +kernel
theorem dX6_oneMoveMore_43 : decode cX6_oneMoveMore 43 = .ok (.iload_n 1, 1) := by decide +kernel
theorem dX6_oneMoveMore_44 : decode cX6_oneMoveMore 44 = .ok (.iaload, 1) := by decide +kernel
theorem dX6_oneMoveMore_45 : decode cX6_oneMoveMore 45 = .ok (.iconst (-1), 1) := by decide +kernel
theorem dX6_oneMoveMore_46 : decode cX6_oneMoveMore 46 = .ok (.if_icmp .ne 7, 3) := by decide +kernel
theorem dX6_oneMoveMore_49 : decode cX6_oneMoveMore 49 = .ok (.iconst 0, 1) := by decide +kernel
theorem dX6_oneMoveMore_50 : decode cX6_oneMoveMore 50 = .ok (.goto 12, 3) := by decide +kernel
theorem dX6_oneMoveMore_53 : decode cX6_oneMoveMore 53 = .ok (.aload_n 0, 1) := by decide +kernel
theorem dX6_oneMoveMore_54 : decode cX6_oneMoveMore 54 = .ok (.getfield 19, 3) := by decide +kernel
theorem dX6_oneMoveMore_57 : decode cX6_oneMoveMore 57 = .ok (.getfield 38, 3) := by decide +kernel
theorem dX6_oneMoveMore_60 : decode cX6_oneMoveMore 60 = .ok (.iload_n 1, 1) := by decide +kernel
theorem dX6_oneMoveMore_61 : decode cX6_oneMoveMore 61 = .ok (.iaload, 1) := by decide +kernel
theorem dX6_oneMoveMore_62 : decode cX6_oneMoveMore 62 = .ok (.istore_n 3, 1) := by decide +kernel
theorem dX6_oneMoveMore_63 : decode cX6_oneMoveMore 63 = .ok (.aload_n 0, 1) := by decide +kernel
theorem dX6_oneMoveMore_64 : decode cX6_oneMoveMore 64 = .ok (.getfield 19, 3) := by decide +kernel
theorem dX6_oneMoveMore_67 : decode cX6_oneMoveMore 67 = .ok (.getfield 38, 3) := by decide +kernel
theorem dX6_oneMoveMore_70 : decode cX6_oneMoveMore 70 = .ok (.iload_n 1, 1) := by decide +kernel
theorem dX6_oneMoveMore_71 : decode cX6_oneMoveMore 71 = .ok (.iaload, 1) := by decide +kernel
theorem dX6_oneMoveMore_72 : decode cX6_oneMoveMore 72 = .ok (.iconst (-1), 1) := by decide +kernel
theorem dX6_oneMoveMore_73 : decode cX6_oneMoveMore 73 = .ok (.if_icmp .ne 13, 3) := by decide +kernel
theorem dX6_oneMoveMore_76 : decode cX6_oneMoveMore 76 = .ok (.aload_n 0, 1) := by decide +kernel
theorem dX6_oneMoveMore_77 : decode cX6_oneMoveMore 77 = .ok (.iload_n 1, 1) := by decide +kernel
theorem dX6_oneMoveMore_78 : decode cX6_oneMoveMore 78 = .ok (.iload_n 3, 1) := by decide +kernel
theorem dX6_oneMoveMore_79 : decode cX6_oneMoveMore 79 = .ok (.aload_n 2, 1) := by decide +kernel
theorem dX6_oneMoveMore_80 : decode cX6_oneMoveMore 80 = .ok (.invokevirtual 64, 3) := by decide +kernel
theorem dX6_oneMoveMore_83 : decode cX6_oneMoveMore 83 = .ok (.goto 4, 3) := by decide +kernel
theorem dX6_oneMoveMore_86 : decode cX6_oneMoveMore 86 = .ok (.iload_n 3, 1) := by decide +kernel
theorem dX6_oneMoveMore_87 : decode cX6_oneMoveMore 87 = .ok (.istore 4, 2) := by decide +kernel
theorem dX6_oneMoveMore_89 : decode cX6_oneMoveMore 89 = .ok (.ldc2_w 109, 3) := by decide +kernel
theorem dX6_oneMoveMore_92 : decode cX6_oneMoveMore 92 = .ok (.aload_n 2, 1) := by decide +kernel
theorem dX6_oneMoveMore_93 : decode cX6_oneMoveMore 93 = .ok (.getfield 71, 3) := by decide +kernel
theorem dX6_oneMoveMore_96 : decode cX6_oneMoveMore 96 = .ok (.aload_n 0, 1) := by decide +kernel
theorem dX6_oneMoveMore_97 : decode cX6_oneMoveMore 97 = .ok (.getfield 19, 3) := by decide +kernel
theorem dX6_oneMoveMore_100 : decode cX6_oneMoveMore 100 = .ok (.iload_n 1, 1) := by decide +kernel
theorem dX6_oneMoveMore_101 : decode cX6_oneMoveMore 101 = .ok (.iload 4, 2) := by decide +kernel
theorem dX6_oneMoveMore_103 : decode cX6_oneMoveMore 103 = .ok (.invokevirtual 76, 3) := by decide +kernel
theorem dX6_oneMoveMore_106 : decode cX6_oneMoveMore 106 = .ok (.laload, 1) := by decide +kernel
theorem dX6_oneMoveMore_107 : decode cX6_oneMoveMore 107 = .ok (.lmul, 1) := by decide +kernel
theorem dX6_oneMoveMore_108 : decode cX6_oneMoveMore 108 = .ok (.lreturn, 1) := by decide +kernel
theorem dX6_oneMoveMore_109 : decode cX6_oneMoveMore 109 = .ok (.lconst 0, 1) := by decide +kernel
theorem dX6_oneMoveMore_110 : decode cX6_oneMoveMore 110 = .ok (.lstore_n 3, 1) := by decide +kernel
theorem dX6_oneMoveMore_111 : decode cX6_oneMoveMore 111 = .ok (.iconst 0, 1) := by decide +kernel
theorem dX6_oneMoveMore_112 : decode cX6_oneMoveMore 112 = .ok (.istore 5, 2) := by decide +kernel
theorem dX6_oneMoveMore_114 : decode cX6_oneMoveMore 114 = .ok (.iload 5, 2) := by decide +kernel
theorem dX6_oneMoveMore_116 : decode cX6_oneMoveMore 116 = .ok (.aload_n 0, 1) := by decide +kernel
theorem dX6_oneMoveMore_117 : decode cX6_oneMoveMore 117 = .ok (.getfield 19, 3) := by decide +kernel
theorem dX6_oneMoveMore_120 : decode cX6_oneMoveMore 120 = .ok (.getfield 68, 3) := by decide +kernel
theorem dX6_oneMoveMore_123 : decode cX6_oneMoveMore 123 = .ok (.iload_n 1, 1) := by decide +kernel
theorem dX6_oneMoveMore_124 : decode cX6_oneMoveMore 124 = .ok (.iaload, 1) := by decide +kernel
theorem dX6_oneMoveMore_125 : decode cX6_oneMoveMore 125 = .ok (.if_icmp .ge 39, 3) := by decide +kernel
theorem dX6_oneMoveMore_128 : decode cX6_oneMoveMore 128 = .ok (.lload_n 3, 1) := by decide +kernel
theorem dX6_oneMoveMore_129 : decode cX6_oneMoveMore 129 = .ok (.aload_n 0, 1) := by decide +kernel
theorem dX6_oneMoveMore_130 : decode cX6_oneMoveMore 130 = .ok (.getfield 19, 3) := by decide +kernel
theorem dX6_oneMoveMore_133 : decode cX6_oneMoveMore 133 = .ok (.iload_n 1, 1) := by decide +kernel
theorem dX6_oneMoveMore_134 : decode cX6_oneMoveMore 134 = .ok (.iload 5, 2) := by decide +kernel
theorem dX6_oneMoveMore_136 : decode cX6_oneMoveMore 136 = .ok (.invokevirtual 111, 3) := by decide +kernel
theorem dX6_oneMoveMore_139 : decode cX6_oneMoveMore 139 = .ok (.i2l, 1) := by decide +kernel
theorem dX6_oneMoveMore_140 : decode cX6_oneMoveMore 140 = .ok (.aload_n 2, 1) := by decide +kernel
theorem dX6_oneMoveMore_141 : decode cX6_oneMoveMore 141 = .ok (.getfield 71, 3) := by decide +kernel
theorem dX6_oneMoveMore_144 : decode cX6_oneMoveMore 144 = .ok (.aload_n 0, 1) := by decide +kernel
theorem dX6_oneMoveMore_145 : decode cX6_oneMoveMore 145 = .ok (.getfield 19, 3) := by decide +kernel
theorem dX6_oneMoveMore_148 : decode cX6_oneMoveMore 148 = .ok (.iload_n 1, 1) := by decide +kernel
theorem dX6_oneMoveMore_149 : decode cX6_oneMoveMore 149 = .ok (.iload 5, 2) := by decide +kernel
theorem dX6_oneMoveMore_151 : decode cX6_oneMoveMore 151 = .ok (.invokevirtual 76, 3) := by decide +kernel
theorem dX6_oneMoveMore_154 : decode cX6_oneMoveMore 154 = .ok (.laload, 1) := by decide +kernel
theorem dX6_oneMoveMore_155 : decode cX6_oneMoveMore 155 = .ok (.lmul, 1) := by decide +kernel
theorem dX6_oneMoveMore_156 : decode cX6_oneMoveMore 156 = .ok (.ladd, 1) := by decide +kernel
theorem dX6_oneMoveMore_157 : decode cX6_oneMoveMore 157 = .ok (.lstore_n 3, 1) := by decide +kernel
theorem dX6_oneMoveMore_158 : decode cX6_oneMoveMore 158 = .ok (.iinc 5 1, 3) := by decide +kernel
theorem dX6_oneMoveMore_161 : decode cX6_oneMoveMore 161 = .ok (.goto (-47), 3) := by decide +kernel
theorem dX6_oneMoveMore_164 : decode cX6_oneMoveMore 164 = .ok (.aload_n 0, 1) := by decide +kernel
theorem dX6_oneMoveMore_165 : decode cX6_oneMoveMore 165 = .ok (.getfield 19, 3) := by decide +kernel
theorem dX6_oneMoveMore_168 : decode cX6_oneMoveMore 168 = .ok (.iload_n 1, 1) := by decide +kernel
theorem dX6_oneMoveMore_169 : decode cX6_oneMoveMore 169 = .ok (.invokevirtual 114, 3) := by decide +kernel
theorem dX6_oneMoveMore_172 : decode cX6_oneMoveMore 172 = .ok (.istore 5, 2) := by decide +kernel
theorem dX6_oneMoveMore_174 : decode cX6_oneMoveMore 174 = .ok (.iload 5, 2) := by decide +kernel
theorem dX6_oneMoveMore_176 : decode cX6_oneMoveMore 176 = .ok (.ifCond .ne 7, 3) := by decide +kernel
theorem dX6_oneMoveMore_179 : decode cX6_oneMoveMore 179 = .ok (.lconst 0, 1) := by decide +kernel
theorem dX6_oneMoveMore_180 : decode cX6_oneMoveMore 180 = .ok (.goto 11, 3) := by decide +kernel
theorem dX6_oneMoveMore_183 : decode cX6_oneMoveMore 183 = .ok (.bipush 12, 2) := by decide +kernel
theorem dX6_oneMoveMore_185 : decode cX6_oneMoveMore 185 = .ok (.iload 5, 2) := by decide +kernel
theorem dX6_oneMoveMore_187 : decode cX6_oneMoveMore 187 = .ok (.idiv, 1) := by decide +kernel
theorem dX6_oneMoveMore_188 : decode cX6_oneMoveMore 188 = .ok (.i2l, 1) := by decide +kernel
theorem dX6_oneMoveMore_189 : decode cX6_oneMoveMore 189 = .ok (.lload_n 3, 1) := by decide +kernel
theorem dX6_oneMoveMore_190 : decode cX6_oneMoveMore 190 = .ok (.lmul, 1) := by decide +kernel
theorem dX6_oneMoveMore_191 : decode cX6_oneMoveMore 191 = .ok (.lreturn, 1) := by decide +kernel
theorem dX6_turn_0 : decode cX6_turn 0 = .ok (.aload_n 0, 1) := by decide +kernel
theorem dX6_turn_1 : decode cX6_turn 1 = .ok (.iload_n 1, 1) := by decide +kernel
theorem dX6_turn_2 : decode cX6_turn 2 = .ok (.aload_n 2, 1) := by decide +kernel
theorem dX6_turn_3 : decode cX6_turn 3 = .ok (.aload_n 3, 1) := by decide +kernel
theorem dX6_turn_4 : decode cX6_turn 4 = .ok (.iconst (-1), 1) := by decide +kernel
theorem dX6_turn_5 : decode cX6_turn 5 = .ok (.invokevirtual 49, 3) := by decide +kernel
theorem dX6_turn_8 : decode cX6_turn 8 = .ok (.ireturn, 1) := by decide +kernel
theorem dX6_turnOpen_0 : decode cX6_turnOpen 0 = .ok (.iconst 0, 1) := by decide +kernel
theorem dX6_turnOpen_1 : decode cX6_turnOpen 1 = .ok (.istore 5, 2) := by decide +kernel
theorem dX6_turnOpen_3 : decode cX6_turnOpen 3 = .ok (.iconst 0, 1) := by decide +kernel
theorem dX6_turnOpen_4 : decode cX6_turnOpen 4 = .ok (.istore 6, 2) := by decide +kernel
theorem dX6_turnOpen_6 : decode cX6_turnOpen 6 = .ok (.iload 6, 2) := by decide +kernel
theorem dX6_turnOpen_8 : decode cX6_turnOpen 8 = .ok (.aload_n 0, 1) := by decide +kernel
theorem dX6_turnOpen_9 : decode cX6_turnOpen 9 = .ok (.getfield 19, 3) := by decide +kernel
theorem dX6_turnOpen_12 : decode cX6_turnOpen 12 = .ok (.getfield 32, 3) := by decide +kernel
theorem dX6_turnOpen_15 : decode cX6_turnOpen 15 = .ok (.if_icmp .ge 78, 3) := by decide +kernel
theorem dX6_turnOpen_18 : decode cX6_turnOpen 18 = .ok (.aload_n 0, 1) := by decide +kernel
theorem dX6_turnOpen_19 : decode cX6_turnOpen 19 = .ok (.getfield 19, 3) := by decide +kernel
theorem dX6_turnOpen_22 : decode cX6_turnOpen 22 = .ok (.getfield 61, 3) := by decide +kernel
theorem dX6_turnOpen_25 : decode cX6_turnOpen 25 = .ok (.iload 6, 2) := by decide +kernel
theorem dX6_turnOpen_27 : decode cX6_turnOpen 27 = .ok (.iaload, 1) := by decide +kernel
theorem dX6_turnOpen_28 : decode cX6_turnOpen 28 = .ok (.iload_n 1, 1) := by decide +kernel
theorem dX6_turnOpen_29 : decode cX6_turnOpen 29 = .ok (.if_icmp .ne 58, 3) := by decide +kernel
theorem dX6_turnOpen_32 : decode cX6_turnOpen 32 = .ok (.aload_n 0, 1) := by decide +kernel
theorem dX6_turnOpen_33 : decode cX6_turnOpen 33 = .ok (.getfield 19, 3) := by decide +kernel
theorem dX6_turnOpen_36 : decode cX6_turnOpen 36 = .ok (.getfield 38, 3) := by decide +kernel
theorem dX6_turnOpen_39 : decode cX6_turnOpen 39 = .ok (.iload 6, 2) := by decide +kernel
theorem dX6_turnOpen_41 : decode cX6_turnOpen 41 = .ok (.iaload, 1) := by decide +kernel
theorem dX6_turnOpen_42 : decode cX6_turnOpen 42 = .ok (.iconst (-1), 1) := by decide +kernel
theorem dX6_turnOpen_43 : decode cX6_turnOpen 43 = .ok (.if_icmp .ne 44, 3) := by decide +kernel
theorem dX6_turnOpen_46 : decode cX6_turnOpen 46 = .ok (.iload 4, 2) := by decide +kernel
theorem dX6_turnOpen_48 : decode cX6_turnOpen 48 = .ok (.iload 6, 2) := by decide +kernel
theorem dX6_turnOpen_50 : decode cX6_turnOpen 50 = .ok (.ishr, 1) := by decide +kernel
theorem dX6_turnOpen_51 : decode cX6_turnOpen 51 = .ok (.iconst 1, 1) := by decide +kernel
theorem dX6_turnOpen_52 : decode cX6_turnOpen 52 = .ok (.iand, 1) := by decide +kernel
theorem dX6_turnOpen_53 : decode cX6_turnOpen 53 = .ok (.ifCond .eq 34, 3) := by decide +kernel
theorem dX6_turnOpen_56 : decode cX6_turnOpen 56 = .ok (.aload_n 0, 1) := by decide +kernel
theorem dX6_turnOpen_57 : decode cX6_turnOpen 57 = .ok (.iload 6, 2) := by decide +kernel
theorem dX6_turnOpen_59 : decode cX6_turnOpen 59 = .ok (.aload_n 2, 1) := by decide +kernel
theorem dX6_turnOpen_60 : decode cX6_turnOpen 60 = .ok (.iload 6, 2) := by decide +kernel
theorem dX6_turnOpen_62 : decode cX6_turnOpen 62 = .ok (.iaload, 1) := by decide +kernel
theorem dX6_turnOpen_63 : decode cX6_turnOpen 63 = .ok (.aload_n 3, 1) := by decide +kernel
theorem dX6_turnOpen_64 : decode cX6_turnOpen 64 = .ok (.invokevirtual 64, 3) := by decide +kernel
theorem dX6_turnOpen_67 : decode cX6_turnOpen 67 = .ok (.istore 7, 2) := by decide +kernel
theorem dX6_turnOpen_69 : decode cX6_turnOpen 69 = .ok (.iload 7, 2) := by decide +kernel
theorem dX6_turnOpen_71 : decode cX6_turnOpen 71 = .ok (.aload_n 2, 1) := by decide +kernel
theorem dX6_turnOpen_72 : decode cX6_turnOpen 72 = .ok (.iload 6, 2) := by decide +kernel
theorem dX6_turnOpen_74 : decode cX6_turnOpen 74 = .ok (.iaload, 1) := by decide +kernel
theorem dX6_turnOpen_75 : decode cX6_turnOpen 75 = .ok (.if_icmp .eq 12, 3) := by decide +kernel
theorem dX6_turnOpen_78 : decode cX6_turnOpen 78 = .ok (.aload_n 2, 1) := by decide +kernel
theorem dX6_turnOpen_79 : decode cX6_turnOpen 79 = .ok (.iload 6, 2) := by decide +kernel
theorem dX6_turnOpen_81 : decode cX6_turnOpen 81 = .ok (.iload 7, 2) := by decide +kernel
theorem dX6_turnOpen_83 : decode cX6_turnOpen 83 = .ok (.iastore, 1) := by decide +kernel
theorem dX6_turnOpen_84 : decode cX6_turnOpen 84 = .ok (.iinc 5 1, 3) := by decide +kernel
theorem dX6_turnOpen_87 : decode cX6_turnOpen 87 = .ok (.iinc 6 1, 3) := by decide +kernel
theorem dX6_turnOpen_90 : decode cX6_turnOpen 90 = .ok (.goto (-84), 3) := by decide +kernel
theorem dX6_turnOpen_93 : decode cX6_turnOpen 93 = .ok (.iload 5, 2) := by decide +kernel
theorem dX6_turnOpen_95 : decode cX6_turnOpen 95 = .ok (.ireturn, 1) := by decide +kernel
theorem dX6_unavoidable_0 : decode cX6_unavoidable 0 = .ok (.aload_n 0, 1) := by decide +kernel
theorem dX6_unavoidable_1 : decode cX6_unavoidable 1 = .ok (.getfield 19, 3) := by decide +kernel
theorem dX6_unavoidable_4 : decode cX6_unavoidable 4 = .ok (.invokevirtual 80, 3) := by decide +kernel
theorem dX6_unavoidable_7 : decode cX6_unavoidable 7 = .ok (.istore_n 2, 1) := by decide +kernel
theorem dX6_unavoidable_8 : decode cX6_unavoidable 8 = .ok (.iconst (-1), 1) := by decide +kernel
theorem dX6_unavoidable_9 : decode cX6_unavoidable 9 = .ok (.istore_n 3, 1) := by decide +kernel
theorem dX6_unavoidable_10 : decode cX6_unavoidable 10 = .ok (.iconst 0, 1) := by decide +kernel
theorem dX6_unavoidable_11 : decode cX6_unavoidable 11 = .ok (.istore 4, 2) := by decide +kernel
theorem dX6_unavoidable_13 : decode cX6_unavoidable 13 = .ok (.iload 4, 2) := by decide +kernel
theorem dX6_unavoidable_15 : decode cX6_unavoidable 15 = .ok (.bipush 12, 2) := by decide +kernel
theorem dX6_unavoidable_17 : decode cX6_unavoidable 17 = .ok (.if_icmp .ge 140, 3) := by decide +kernel
theorem dX6_unavoidable_20 : decode cX6_unavoidable 20 = .ok (.iload_n 2, 1) := by decide +kernel
theorem dX6_unavoidable_21 : decode cX6_unavoidable 21 = .ok (.iload_n 3, 1) := by decide +kernel
theorem dX6_unavoidable_22 : decode cX6_unavoidable 22 = .ok (.if_icmp .eq 135, 3) := by decide +kernel
theorem dX6_unavoidable_25 : decode cX6_unavoidable 25 = .ok (.iload_n 2, 1) := by decide +kernel
theorem dX6_unavoidable_26 : decode cX6_unavoidable 26 = .ok (.istore_n 3, 1) := by decide +kernel
theorem dX6_unavoidable_27 : decode cX6_unavoidable 27 = .ok (.iconst 0, 1) := by decide +kernel
theorem dX6_unavoidable_28 : decode cX6_unavoidable 28 = .ok (.istore 5, 2) := by decide +kernel
theorem dX6_unavoidable_30 : decode cX6_unavoidable 30 = .ok (.iload 5, 2) := by decide +kernel
theorem dX6_unavoidable_32 : decode cX6_unavoidable 32 = .ok (.aload_n 0, 1) := by decide +kernel
theorem dX6_unavoidable_33 : decode cX6_unavoidable 33 = .ok (.getfield 19, 3) := by decide +kernel
theorem dX6_unavoidable_36 : decode cX6_unavoidable 36 = .ok (.getfield 32, 3) := by decide +kernel
theorem dX6_unavoidable_39 : decode cX6_unavoidable 39 = .ok (.if_icmp .ge 112, 3) := by decide +kernel
theorem dX6_unavoidable_42 : decode cX6_unavoidable 42 = .ok (.aload_n 0, 1) := by decide +kernel
theorem dX6_unavoidable_43 : decode cX6_unavoidable 43 = .ok (.getfield 19, 3) := by decide +kernel
theorem dX6_unavoidable_46 : decode cX6_unavoidable 46 = .ok (.getfield 61, 3) := by decide +kernel
theorem dX6_unavoidable_49 : decode cX6_unavoidable 49 = .ok (.iload 5, 2) := by decide +kernel
theorem dX6_unavoidable_51 : decode cX6_unavoidable 51 = .ok (.iaload, 1) := by decide +kernel
theorem dX6_unavoidable_52 : decode cX6_unavoidable 52 = .ok (.iconst 2, 1) := by decide +kernel
theorem dX6_unavoidable_53 : decode cX6_unavoidable 53 = .ok (.if_icmp .ne 15, 3) := by decide +kernel
theorem dX6_unavoidable_56 : decode cX6_unavoidable 56 = .ok (.aload_n 0, 1) := by decide +kernel
theorem dX6_unavoidable_57 : decode cX6_unavoidable 57 = .ok (.getfield 19, 3) := by decide +kernel
theorem dX6_unavoidable_60 : decode cX6_unavoidable 60 = .ok (.iload 5, 2) := by decide +kernel
theorem dX6_unavoidable_62 : decode cX6_unavoidable 62 = .ok (.invokevirtual 84, 3) := by decide +kernel
theorem dX6_unavoidable_65 : decode cX6_unavoidable 65 = .ok (.goto 13, 3) := by decide +kernel
theorem dX6_unavoidable_68 : decode cX6_unavoidable 68 = .ok (.aload_n 0, 1) := by decide +kernel
theorem dX6_unavoidable_69 : decode cX6_unavoidable 69 = .ok (.getfield 28, 3) := by decide +kernel
theorem dX6_unavoidable_72 : decode cX6_unavoidable 72 = .ok (.aload_n 1, 1) := by decide +kernel
theorem dX6_unavoidable_73 : decode cX6_unavoidable 73 = .ok (.iload 5, 2) := by decide +kernel
theorem dX6_unavoidable_75 : decode cX6_unavoidable 75 = .ok (.invokevirtual 88, 3) := by decide +kernel
theorem dX6_unavoidable_78 : decode cX6_unavoidable 78 = .ok (.istore 6, 2) := by decide +kernel
theorem dX6_unavoidable_80 : decode cX6_unavoidable 80 = .ok (.aload_n 0, 1) := by decide +kernel
theorem dX6_unavoidable_81 : decode cX6_unavoidable 81 = .ok (.getfield 19, 3) := by decide +kernel
theorem dX6_unavoidable_84 : decode cX6_unavoidable 84 = .ok (.getfield 61, 3) := by decide +kernel
theorem dX6_unavoidable_87 : decode cX6_unavoidable 87 = .ok (.iload 5, 2) := by decide +kernel
theorem dX6_unavoidable_89 : decode cX6_unavoidable 89 = .ok (.iaload, 1) := by decide +kernel
theorem dX6_unavoidable_90 : decode cX6_unavoidable 90 = .ok (.iconst 2, 1) := by decide +kernel
theorem dX6_unavoidable_91 : decode cX6_unavoidable 91 = .ok (.if_icmp .ne 7, 3) := by decide +kernel
theorem dX6_unavoidable_94 : decode cX6_unavoidable 94 = .ok (.iconst 1, 1) := by decide +kernel
theorem dX6_unavoidable_95 : decode cX6_unavoidable 95 = .ok (.goto 4, 3) := by decide +kernel
theorem dX6_unavoidable_98 : decode cX6_unavoidable 98 = .ok (.iconst 0, 1) := by decide +kernel
theorem dX6_unavoidable_99 : decode cX6_unavoidable 99 = .ok (.istore 7, 2) := by decide +kernel
theorem dX6_unavoidable_101 : decode cX6_unavoidable 101 = .ok (.aload_n 0, 1) := by decide +kernel
theorem dX6_unavoidable_102 : decode cX6_unavoidable 102 = .ok (.getfield 19, 3) := by decide +kernel
theorem dX6_unavoidable_105 : decode cX6_unavoidable 105 = .ok (.getfield 61, 3) := by decide +kernel
theorem dX6_unavoidable_108 : decode cX6_unavoidable 108 = .ok (.iload 5, 2) := by decide +kernel
theorem dX6_unavoidable_110 : decode cX6_unavoidable 110 = .ok (.iaload, 1) := by decide +kernel
theorem dX6_unavoidable_111 : decode cX6_unavoidable 111 = .ok (.ifCond .eq 34, 3) := by decide +kernel
theorem dX6_unavoidable_114 : decode cX6_unavoidable 114 = .ok (.iload 7, 2) := by decide +kernel
theorem dX6_unavoidable_116 : decode cX6_unavoidable 116 = .ok (.ifCond .eq 15, 3) := by decide +kernel
theorem dX6_unavoidable_119 : decode cX6_unavoidable 119 = .ok (.iload 6, 2) := by decide +kernel
theorem dX6_unavoidable_121 : decode cX6_unavoidable 121 = .ok (.iload_n 2, 1) := by decide +kernel
theorem dX6_unavoidable_122 : decode cX6_unavoidable 122 = .ok (.iconst (-1), 1) := by decide +kernel
theorem dX6_unavoidable_123 : decode cX6_unavoidable 123 = .ok (.ixor, 1) := by decide +kernel
theorem dX6_unavoidable_124 : decode cX6_unavoidable 124 = .ok (.iand, 1) := by decide +kernel
theorem dX6_unavoidable_125 : decode cX6_unavoidable 125 = .ok (.ifCond .ne 20, 3) := by decide +kernel
theorem dX6_unavoidable_128 : decode cX6_unavoidable 128 = .ok (.goto 10, 3) := by decide +kernel
theorem dX6_unavoidable_131 : decode cX6_unavoidable 131 = .ok (.iload 6, 2) := by decide +kernel
theorem dX6_unavoidable_133 : decode cX6_unavoidable 133 = .ok (.iload_n 2, 1) := by decide +kernel
theorem dX6_unavoidable_134 : decode cX6_unavoidable 134 = .ok (.iand, 1) := by decide +kernel
theorem dX6_unavoidable_135 : decode cX6_unavoidable 135 = .ok (.ifCond .eq 10, 3) := by decide +kernel
theorem dX6_unavoidable_138 : decode cX6_unavoidable 138 = .ok (.iload_n 2, 1) := by decide +kernel
theorem dX6_unavoidable_139 : decode cX6_unavoidable 139 = .ok (.iconst 1, 1) := by decide +kernel
theorem dX6_unavoidable_140 : decode cX6_unavoidable 140 = .ok (.iload 5, 2) := by decide +kernel
theorem dX6_unavoidable_142 : decode cX6_unavoidable 142 = .ok (.ishl, 1) := by decide +kernel
theorem dX6_unavoidable_143 : decode cX6_unavoidable 143 = .ok (.ior, 1) := by decide +kernel
theorem dX6_unavoidable_144 : decode cX6_unavoidable 144 = .ok (.istore_n 2, 1) := by decide +kernel
theorem dX6_unavoidable_145 : decode cX6_unavoidable 145 = .ok (.iinc 5 1, 3) := by decide +kernel
theorem dX6_unavoidable_148 : decode cX6_unavoidable 148 = .ok (.goto (-118), 3) := by decide +kernel
theorem dX6_unavoidable_151 : decode cX6_unavoidable 151 = .ok (.iinc 4 1, 3) := by decide +kernel
theorem dX6_unavoidable_154 : decode cX6_unavoidable 154 = .ok (.goto (-141), 3) := by decide +kernel
theorem dX6_unavoidable_157 : decode cX6_unavoidable 157 = .ok (.iload_n 2, 1) := by decide +kernel
theorem dX6_unavoidable_158 : decode cX6_unavoidable 158 = .ok (.ireturn, 1) := by decide +kernel
set_option maxHeartbeats 4000000 in
set_option maxRecDepth 100000 in
theorem c_X6_firstWays (l : Launch) (D : va_G) (g : Nat → ClassId) (sz : Nat) (sv : Nat) (pl : Nat) (n : Nat) (co : Nat) (sv_keep : Nat) (sv_scaled : Nat) (n_nodes : Int32) (n_kind : Nat) (n_pay : Nat) (n_name : Nat) (n_ways : Nat) (n_held : Nat) (n_targets : Nat) (n_weights : Nat) (n_fheld : Nat → Int32) (plf : Nat → Int32) (h_n_nodes : 0 ≤ (n_nodes : Int32).toInt ∧ (n_nodes : Int32).toInt ≤ 12) (h_n_fheld : ∀ j : Nat, (-1) ≤ (n_fheld j).toInt ∧ (n_fheld j).toInt ≤ 2) (h_plf : ∀ j : Nat, 0 ≤ (plf j).toInt ∧ (plf j).toInt ≤ 2) : Met l yX6_firstWays (.code yX6_firstWays cX6_firstWays 3 none :: wsL_law) ({ frames := 0, cells := 0, slots := 0, locals := 0 }) (va_Pc [.ref sv, .ref pl] (fun U => U.heap.size = sz ∧ va_P D vwCl [(wO6 sv n co sv_keep sv_scaled), (wO2 n n_nodes n_kind n_pay n_name n_ways n_held n_targets n_weights), (wI g n_held 0 12 n_fheld), (wI g pl 0 12 plf)] U.heap ∧ va_K D vwCl (TY g) U ∧ va_D (fun _ => True) [(wO6 sv n co sv_keep sv_scaled), (wO2 n n_nodes n_kind n_pay n_name n_ways n_held n_targets n_weights), (wI g n_held 0 12 n_fheld), (wI g pl 0 12 plf)])) (va_Qv (fun (_ : Unit) => True) (fun _ t => ∃ opl : Nat → Int32, (∀ j : Nat, 0 ≤ (opl j).toInt ∧ (opl j).toInt ≤ 2) ∧ va_P D vwCl [(wO6 sv n co sv_keep sv_scaled), (wO2 n n_nodes n_kind n_pay n_name n_ways n_held n_targets n_weights), (wI g n_held 0 12 n_fheld), (wI g pl 0 12 opl)] t.heap ∧ va_D (va_A [(wO6 sv n co sv_keep sv_scaled), (wO2 n n_nodes n_kind n_pay n_name n_ways n_held n_targets n_weights), (wI g n_held 0 12 n_fheld), (wI g pl 0 12 plf)] sz) [(wO6 sv n co sv_keep sv_scaled), (wO2 n n_nodes n_kind n_pay n_name n_ways n_held n_targets n_weights), (wI g n_held 0 12 n_fheld), (wI g pl 0 12 opl)]) (va_A [(wO6 sv n co sv_keep sv_scaled), (wO2 n n_nodes n_kind n_pay n_name n_ways n_held n_targets n_weights), (wI g n_held 0 12 n_fheld), (wI g pl 0 12 plf)] sz)) 0 0 (va_A [(wO6 sv n co sv_keep sv_scaled), (wO2 n n_nodes n_kind n_pay n_name n_ways n_held n_targets n_weights), (wI g n_held 0 12 n_fheld), (wI g pl 0 12 plf)] sz) := by
  refine Met.ofW (cc := cX6_firstWays) (maxL := 3) (ret := none) (by decide) rfl ?_
  intro p e s m args below meth c s₁ B hml hv
  obtain ⟨ha, hsz, hP, hK, hD0⟩ := hv
  have hx := B.exec
  have hb := B.bytes
  have hr := B.returns
  have hts0 := atoms_spec (ws := (.code yX6_firstWays cX6_firstWays 3 none :: wsL_law)) B.pre
  have hts : ∀ w ∈ wsL_law, w.before args s = true := fun w h => hts0 w (List.mem_cons_of_mem _ h)
  have hown : s.vm.findClass RX6 = some m.cls := findClass_of_methodNamed B.named
  have hlocks := B.notSynchronized
  subst hsz
  have hD := hD0.self (sz := s.heap.size)
  generalize hAe : va_A [(wO6 sv n co sv_keep sv_scaled), (wO2 n n_nodes n_kind n_pay n_name n_ways n_held n_targets n_weights), (wI g n_held 0 12 n_fheld), (wI g pl 0 12 plf)] s.heap.size = A at hD ⊢
  have hA : ∀ q : Nat, s.heap.size ≤ q → A q := fun q h => by rw [← hAe]; exact Or.inr h
  have hS : va_S A s.heap s.heap [] := va_S.rf
  have hP : va_P D vwCl [(wO6 sv n co sv_keep sv_scaled), (wO2 n n_nodes n_kind n_pay n_name n_ways n_held n_targets n_weights), (wI g n_held 0 12 n_fheld), (wI g pl 0 12 plf)] s.heap := hP
  refine W.eq (g2 := entryFrame m ([.ref sv, .ref pl] : List Value).toArray 3) (by rw [ha]) ?_
  have hl := lv_entry ([.ref sv, .ref pl]) (n := 3) (Nat.le_of_ble_eq_true rfl)
  rw [lg_entry_eq]
  generalize (lg_sl ([.ref sv, .ref pl]) ++ List.replicate (3 - (lg_sl ([.ref sv, .ref pl])).length) Slot.unset).toArray = ls at hl ⊢
  have hl : lv_has ls 3 [(0, .ref sv), (1, .ref pl)] := hl
  refine lv_iconst (v := 0) hx hb dX6_firstWays_0 (by decide) ?_
  refine lv_istore_n (lv' := [(2, .int 0), (0, .ref sv), (1, .ref pl)]) hx hb dX6_firstWays_1 rfl hl (by decide) rfl (fun ls hl => ?_)
  have lp_68825 : ∀ (n_68825 : Nat) (x_68823 : Int32) (f_68824 : Nat → Int32) (H : Heap) (locs : List Loc) (ls : Array Slot), (0 ≤ (x_68823 : Int32).toInt ∧ (x_68823 : Int32).toInt ≤ 12) → (∀ j : Nat, 0 ≤ (f_68824 j).toInt ∧ (f_68824 j).toInt ≤ 2) → (12 - x_68823.toInt < (n_68825 : Int)) → va_P D vwCl [(wO6 sv n co sv_keep sv_scaled), (wO2 n n_nodes n_kind n_pay n_name n_ways n_held n_targets n_weights), (wI g n_held 0 12 n_fheld), (wI g pl 0 12 f_68824)] H → va_D A [(wO6 sv n co sv_keep sv_scaled), (wO2 n n_nodes n_kind n_pay n_name n_ways n_held n_targets n_weights), (wI g n_held 0 12 n_fheld), (wI g pl 0 12 f_68824)] → va_S A s.heap H locs → lv_has ls 3 [(2, .int x_68823), (0, .ref sv), (1, .ref pl)] → W p l e (headSpec (.code yX6_firstWays cX6_firstWays 3 none :: wsL_law) ({ frames := 0, cells := 0, slots := 0, locals := 0 })).room s m args below meth c H locs 0 0 (MQ below (va_Qv (fun (_ : Unit) => True) (fun _ t => ∃ opl : Nat → Int32, (∀ j : Nat, 0 ≤ (opl j).toInt ∧ (opl j).toInt ≤ 2) ∧ va_P D vwCl [(wO6 sv n co sv_keep sv_scaled), (wO2 n n_nodes n_kind n_pay n_name n_ways n_held n_targets n_weights), (wI g n_held 0 12 n_fheld), (wI g pl 0 12 opl)] t.heap ∧ va_D A [(wO6 sv n co sv_keep sv_scaled), (wO2 n n_nodes n_kind n_pay n_name n_ways n_held n_targets n_weights), (wI g n_held 0 12 n_fheld), (wI g pl 0 12 opl)]) A) args s 0 0 A) (F0 m 2 ls []) := by
    intro n_68825
    induction n_68825 with
    | zero =>
      intro x_68823 f_68824 H locs ls h_x_68823 h_f_68824 hm_68825 hP hD hS hl
      exfalso; omega
    | succ n_68825 ih_68825 =>
      intro x_68823 f_68824 H locs ls h_x_68823 h_f_68824 hm_68825 hP hD hS hl
      refine lv_iload_n hx hb dX6_firstWays_2 rfl (lv_at hl 0 rfl) ?_
      refine lv_aload_n hx hb dX6_firstWays_3 rfl (lv_at hl 1 rfl) ?_
      refine va_get (D := D) (ci := 6) (v := .ref n) (C := RX6) (T := TX6) (N := 4) hx hb hts inlX6 hown hK hP 0 rfl rfl 0 (by decide) (hts (Cond.fieldLink RX6 19 "ChanceRings$Solver" "net" "LChanceRings$Net;") qw_528) (fun _ h9 => h9) rfl dX6_firstWays_4 ?_
      refine va_get (D := D) (ci := 2) (v := .int n_nodes) (C := RX2) (T := TX2) (N := 8) hx hb hts inlX2 hown hK hP 1 rfl rfl 0 (by decide) (hts (Cond.fieldLink RX6 32 "ChanceRings$Net" "nodes" "I") qw_529) (fun _ h9 => h9) rfl dX6_firstWays_7 ?_
      refine lv_icmp_ge (tgt := 48) hx hb dX6_firstWays_10 (by decide) (fun c_68826 => ?_) (fun c_68826 => ?_)
      · skip
        have hP9 := hP.sub (ws' := [(wO6 sv n co sv_keep sv_scaled), (wO2 n n_nodes n_kind n_pay n_name n_ways n_held n_targets n_weights), (wI g n_held 0 12 n_fheld), (wI g pl 0 12 f_68824)]) [0, 1, 2, 3] rfl
        have hD9 := hD.sub (ws' := [(wO6 sv n co sv_keep sv_scaled), (wO2 n n_nodes n_kind n_pay n_name n_ways n_held n_targets n_weights), (wI g n_held 0 12 n_fheld), (wI g pl 0 12 f_68824)]) [0, 1, 2, 3] (by decide) rfl
        exact W.vret hx hb hr (fun t ht hW => ⟨⟨(), rfl, trivial, f_68824, (tr_wa h_f_68824 (by decide) (by decide)), by rw [ht]; exact hP9, hD9⟩, hS.F ht⟩) hS.2.2 dX6_firstWays_48
      · skip
        have c_68826_i := Int32.lt_iff_toInt_lt.mp (Int32.not_le.mp c_68826)
        have h_68827 : 0 ≤ (x_68823 : Int32).toInt ∧ (x_68823 : Int32).toInt ≤ 11 := nr_lt_l h_x_68823 h_n_nodes c_68826_i (by decide) (by decide)
        have h_68828 : 1 ≤ (n_nodes : Int32).toInt ∧ (n_nodes : Int32).toInt ≤ 12 := nr_lt_r h_x_68823 h_n_nodes c_68826_i (by decide) (by decide)
        refine lv_aload_n hx hb dX6_firstWays_13 rfl (lv_at hl 2 rfl) ?_
        refine lv_iload_n hx hb dX6_firstWays_14 rfl (lv_at hl 0 rfl) ?_
        refine lv_aload_n hx hb dX6_firstWays_15 rfl (lv_at hl 1 rfl) ?_
        refine va_get (D := D) (ci := 6) (v := .ref n) (C := RX6) (T := TX6) (N := 4) hx hb hts inlX6 hown hK hP 0 rfl rfl 0 (by decide) (hts (Cond.fieldLink RX6 19 "ChanceRings$Solver" "net" "LChanceRings$Net;") qw_528) (fun _ h9 => h9) rfl dX6_firstWays_16 ?_
        refine va_get (D := D) (ci := 2) (v := .ref n_held) (C := RX2) (T := TX2) (N := 8) hx hb hts inlX2 hown hK hP 1 rfl rfl 5 (by decide) (hts (Cond.fieldLink RX6 38 "ChanceRings$Net" "held" "[I") qw_530) (fun _ h9 => h9) rfl dX6_firstWays_19 ?_
        refine lv_iload_n hx hb dX6_firstWays_22 rfl (lv_at hl 0 rfl) ?_
        refine va_iald hx hb hK hP 2 0 rfl rfl (tr_in h_68827 (by decide) (by decide)) dX6_firstWays_23 ?_
        refine lv_topi (fun v_68829 v_68829_e => ?_)
        have h_v_68829 : (-1) ≤ (v_68829 : Int32).toInt ∧ (v_68829 : Int32).toInt ≤ 2 := by rw [v_68829_e]; exact h_n_fheld _
        refine lv_iconst (v := (-1)) hx hb dX6_firstWays_24 (by decide) ?_
        refine lv_icmp_ne (tgt := 32) hx hb dX6_firstWays_25 (by decide) (fun c_68830 => ?_) (fun c_68830 => ?_)
        · skip
          have c_68830_i : ¬ (v_68829 : Int32).toInt = ((-1) : Int32).toInt := (fun q => c_68830 (Int32.toInt_inj.mp q))
          have h_68831 : 0 ≤ (v_68829 : Int32).toInt ∧ (v_68829 : Int32).toInt ≤ 2 := nr_ne_l h_v_68829 (⟨by decide, by decide⟩ : (-1) ≤ ((-1) : Int32).toInt ∧ ((-1) : Int32).toInt ≤ (-1)) c_68830_i (by decide) (by decide)
          refine lv_aload_n hx hb dX6_firstWays_32 rfl (lv_at hl 1 rfl) ?_
          refine va_get (D := D) (ci := 6) (v := .ref n) (C := RX6) (T := TX6) (N := 4) hx hb hts inlX6 hown hK hP 0 rfl rfl 0 (by decide) (hts (Cond.fieldLink RX6 19 "ChanceRings$Solver" "net" "LChanceRings$Net;") qw_528) (fun _ h9 => h9) rfl dX6_firstWays_33 ?_
          refine va_get (D := D) (ci := 2) (v := .ref n_held) (C := RX2) (T := TX2) (N := 8) hx hb hts inlX2 hown hK hP 1 rfl rfl 5 (by decide) (hts (Cond.fieldLink RX6 38 "ChanceRings$Net" "held" "[I") qw_530) (fun _ h9 => h9) rfl dX6_firstWays_36 ?_
          refine lv_iload_n hx hb dX6_firstWays_39 rfl (lv_at hl 0 rfl) ?_
          refine va_iald hx hb hK hP 2 0 rfl rfl (tr_in h_68827 (by decide) (by decide)) dX6_firstWays_40 ?_
          refine tz_i (y := v_68829) v_68829_e.symm ?_
          refine va_iast hx hb hK hP hD hS 3 0 rfl rfl (tr_in h_68827 (by decide) (by decide)) dX6_firstWays_41 (fun H locs hP hD hS => ?_)
          obtain ⟨f_68833, h_f_68833, hP, hD⟩ : ∃ FX : Nat → Int32, (∀ j : Nat, 0 ≤ (FX j).toInt ∧ (FX j).toInt ≤ 2) ∧ va_P D vwCl [(wO6 sv n co sv_keep sv_scaled), (wO2 n n_nodes n_kind n_pay n_name n_ways n_held n_targets n_weights), (wI g n_held 0 12 n_fheld), (wI g pl 0 12 FX)] H ∧ va_D A [(wO6 sv n co sv_keep sv_scaled), (wO2 n n_nodes n_kind n_pay n_name n_ways n_held n_targets n_weights), (wI g n_held 0 12 n_fheld), (wI g pl 0 12 FX)] := ⟨_, tr_upd h_f_68824 (tr_w h_68831 (by decide) (by decide)), hP, hD⟩
          have hP : va_P D vwCl [(wO6 sv n co sv_keep sv_scaled), (wO2 n n_nodes n_kind n_pay n_name n_ways n_held n_targets n_weights), (wI g n_held 0 12 n_fheld), (wI g pl 0 12 f_68833)] H := hP
          have hD : va_D A [(wO6 sv n co sv_keep sv_scaled), (wO2 n n_nodes n_kind n_pay n_name n_ways n_held n_targets n_weights), (wI g n_held 0 12 n_fheld), (wI g pl 0 12 f_68833)] := hD
          obtain ⟨v_68834, v_68834_e⟩ : ∃ y : Int32, y = x_68823 + Int32.ofInt 1 := ⟨_, rfl⟩
          have h_v_68834 : 1 ≤ (v_68834 : Int32).toInt ∧ (v_68834 : Int32).toInt ≤ 12 := by rw [v_68834_e]; exact tr_add h_68827 (⟨by decide, by decide⟩ : 1 ≤ (Int32.ofInt 1 : Int32).toInt ∧ (Int32.ofInt 1 : Int32).toInt ≤ 1) (by decide) (by decide) (by decide) (by decide)
          have q_v_68834 : v_68834.toInt = x_68823.toInt + 1 := by rw [v_68834_e]; exact tr_addE h_68827 (⟨by decide, by decide⟩ : 1 ≤ (Int32.ofInt 1 : Int32).toInt ∧ (Int32.ofInt 1 : Int32).toInt ≤ 1) (by decide) (by decide)
          refine lv_iinc (v := v_68834) (lv' := [(2, .int v_68834), (0, .ref sv), (1, .ref pl)]) hx hb dX6_firstWays_42 hl (k := 0) rfl v_68834_e.symm (by decide) rfl (fun ls hl => ?_)
          refine lv_goto (tgt := 2) hx hb dX6_firstWays_45 (by decide) ?_
          exact ih_68825 v_68834 f_68833 H _ ls (tr_w h_v_68834 (by decide) (by decide)) (tr_wa h_f_68833 (by decide) (by decide)) (by (first | (clear h_f_68824 h_v_68829 c_68830_i h_68831; omega) | omega)) (hP.sub [0, 1, 2, 3] rfl) (hD.sub [0, 1, 2, 3] (by decide) rfl) hS (lv_sub hl [0, 1, 2] rfl)
        · skip
          have c_68830_i : (v_68829 : Int32).toInt = ((-1) : Int32).toInt := congrArg Int32.toInt c_68830
          have h_68832 : (-1) ≤ (v_68829 : Int32).toInt ∧ (v_68829 : Int32).toInt ≤ (-1) := nr_eq_l h_v_68829 (⟨by decide, by decide⟩ : (-1) ≤ ((-1) : Int32).toInt ∧ ((-1) : Int32).toInt ≤ (-1)) c_68830_i (by decide) (by decide)
          refine lv_iconst (v := 0) hx hb dX6_firstWays_28 (by decide) ?_
          refine lv_goto (tgt := 41) hx hb dX6_firstWays_29 (by decide) ?_
          refine va_iast hx hb hK hP hD hS 3 0 rfl rfl (tr_in h_68827 (by decide) (by decide)) dX6_firstWays_41 (fun H locs hP hD hS => ?_)
          obtain ⟨f_68835, h_f_68835, hP, hD⟩ : ∃ FX : Nat → Int32, (∀ j : Nat, 0 ≤ (FX j).toInt ∧ (FX j).toInt ≤ 2) ∧ va_P D vwCl [(wO6 sv n co sv_keep sv_scaled), (wO2 n n_nodes n_kind n_pay n_name n_ways n_held n_targets n_weights), (wI g n_held 0 12 n_fheld), (wI g pl 0 12 FX)] H ∧ va_D A [(wO6 sv n co sv_keep sv_scaled), (wO2 n n_nodes n_kind n_pay n_name n_ways n_held n_targets n_weights), (wI g n_held 0 12 n_fheld), (wI g pl 0 12 FX)] := ⟨_, tr_upd h_f_68824 (⟨by decide, by decide⟩ : 0 ≤ (0 : Int32).toInt ∧ (0 : Int32).toInt ≤ 2), hP, hD⟩
          have hP : va_P D vwCl [(wO6 sv n co sv_keep sv_scaled), (wO2 n n_nodes n_kind n_pay n_name n_ways n_held n_targets n_weights), (wI g n_held 0 12 n_fheld), (wI g pl 0 12 f_68835)] H := hP
          have hD : va_D A [(wO6 sv n co sv_keep sv_scaled), (wO2 n n_nodes n_kind n_pay n_name n_ways n_held n_targets n_weights), (wI g n_held 0 12 n_fheld), (wI g pl 0 12 f_68835)] := hD
          obtain ⟨v_68836, v_68836_e⟩ : ∃ y : Int32, y = x_68823 + Int32.ofInt 1 := ⟨_, rfl⟩
          have h_v_68836 : 1 ≤ (v_68836 : Int32).toInt ∧ (v_68836 : Int32).toInt ≤ 12 := by rw [v_68836_e]; exact tr_add h_68827 (⟨by decide, by decide⟩ : 1 ≤ (Int32.ofInt 1 : Int32).toInt ∧ (Int32.ofInt 1 : Int32).toInt ≤ 1) (by decide) (by decide) (by decide) (by decide)
          have q_v_68836 : v_68836.toInt = x_68823.toInt + 1 := by rw [v_68836_e]; exact tr_addE h_68827 (⟨by decide, by decide⟩ : 1 ≤ (Int32.ofInt 1 : Int32).toInt ∧ (Int32.ofInt 1 : Int32).toInt ≤ 1) (by decide) (by decide)
          refine lv_iinc (v := v_68836) (lv' := [(2, .int v_68836), (0, .ref sv), (1, .ref pl)]) hx hb dX6_firstWays_42 hl (k := 0) rfl v_68836_e.symm (by decide) rfl (fun ls hl => ?_)
          refine lv_goto (tgt := 2) hx hb dX6_firstWays_45 (by decide) ?_
          exact ih_68825 v_68836 f_68835 H _ ls (tr_w h_v_68836 (by decide) (by decide)) (tr_wa h_f_68835 (by decide) (by decide)) (by (first | (clear h_f_68824 h_v_68829 c_68830_i h_68832; omega) | omega)) (hP.sub [0, 1, 2, 3] rfl) (hD.sub [0, 1, 2, 3] (by decide) rfl) hS (lv_sub hl [0, 1, 2] rfl)
  exact lp_68825 13 0 plf s.heap _ ls (⟨by decide, by decide⟩ : 0 ≤ (0 : Int32).toInt ∧ (0 : Int32).toInt ≤ 12) (tr_wa h_plf (by decide) (by decide)) (by decide) (hP.sub [0, 1, 2, 3] rfl) (hD.sub [0, 1, 2, 3] (by decide) rfl) hS (lv_sub hl [0, 1, 2] rfl)
set_option maxHeartbeats 4000000 in
set_option maxRecDepth 100000 in
theorem c_X6_betterWay (l : Launch) (D : va_G) (g : Nat → ClassId) (sv : Nat) (p0 : Int32) (p1 : Int32) (vs : Nat) (n : Nat) (co : Nat) (sv_keep : Nat) (sv_scaled : Nat) (n_nodes : Int32) (n_kind : Nat) (n_pay : Nat) (n_name : Nat) (n_ways : Nat) (n_held : Nat) (n_targets : Nat) (n_weights : Nat) (n_fkind : Nat → Int32) (n_fways : Nat → Int32) (n_ftargets : Nat → Int32) (vs_part : Nat) (vsw : Int64) (vsp : Nat → Int64) (h_p0 : 0 ≤ (p0 : Int32).toInt ∧ (p0 : Int32).toInt ≤ 11) (h_p1 : 0 ≤ (p1 : Int32).toInt ∧ (p1 : Int32).toInt ≤ 2) (h_n_nodes : 0 ≤ (n_nodes : Int32).toInt ∧ (n_nodes : Int32).toInt ≤ 12) (h_n_fkind : ∀ j : Nat, 0 ≤ (n_fkind j).toInt ∧ (n_fkind j).toInt ≤ 3) (h_n_fways : ∀ j : Nat, 0 ≤ (n_fways j).toInt ∧ (n_fways j).toInt ≤ 3) (h_n_ftargets : ∀ j : Nat, 0 ≤ (n_ftargets j).toInt ∧ (n_ftargets j).toInt ≤ 11) : Met l yX6_betterWay (.code yX6_betterWay cX6_betterWay 9 (some .int) :: wsL_law) ({ frames := 1, cells := 0, slots := 0, locals := 22 }) (va_Pc [.ref sv, .int p0, .int p1, .ref vs] (fun U => va_P D vwCl [(wO6 sv n co sv_keep sv_scaled), (wO2 n n_nodes n_kind n_pay n_name n_ways n_held n_targets n_weights), (wI g n_kind 0 12 n_fkind), (wI g n_ways 0 12 n_fways), (wI g n_targets 0 36 n_ftargets), (wO10 vs vs_part vsw), (wJ g vs_part 1 12 vsp)] U.heap ∧ va_K D vwCl (TY g) U)) (vp_Si (fun r => 0 ≤ (r : Int32).toInt ∧ (r : Int32).toInt ≤ 2)) 0 0 (fun _ => False) := by
  refine Met.ofW (cc := cX6_betterWay) (maxL := 9) (ret := (some .int)) (by decide) rfl ?_
  intro p e s m args below meth c s₁ B hml hv
  obtain ⟨ha, hP, hK⟩ := hv
  have hx := B.exec
  have hb := B.bytes
  have hr := B.returns
  have hts0 := atoms_spec (ws := (.code yX6_betterWay cX6_betterWay 9 (some .int) :: wsL_law)) B.pre
  have hts : ∀ w ∈ wsL_law, w.before args s = true := fun w h => hts0 w (List.mem_cons_of_mem _ h)
  have hown : s.vm.findClass RX6 = some m.cls := findClass_of_methodNamed B.named
  have hlocks := B.notSynchronized
  have hP : va_P D vwCl [(wO6 sv n co sv_keep sv_scaled), (wO2 n n_nodes n_kind n_pay n_name n_ways n_held n_targets n_weights), (wI g n_kind 0 12 n_fkind), (wI g n_ways 0 12 n_fways), (wI g n_targets 0 36 n_ftargets), (wO10 vs vs_part vsw), (wJ g vs_part 1 12 vsp)] s.heap := hP
  refine W.eq (g2 := entryFrame m ([.ref sv, .int p0, .int p1, .ref vs] : List Value).toArray 9) (by rw [ha]) ?_
  have hl := lv_entry ([.ref sv, .int p0, .int p1, .ref vs]) (n := 9) (Nat.le_of_ble_eq_true rfl)
  rw [lg_entry_eq]
  generalize (lg_sl ([.ref sv, .int p0, .int p1, .ref vs]) ++ List.replicate (9 - (lg_sl ([.ref sv, .int p0, .int p1, .ref vs])).length) Slot.unset).toArray = ls at hl ⊢
  have hl : lv_has ls 9 [(0, .ref sv), (1, .int p0), (2, .int p1), (3, .ref vs)] := hl
  refine lv_aload_n hx hb dX6_betterWay_0 rfl (lv_at hl 0 rfl) ?_
  refine va_get (D := D) (ci := 6) (v := .ref n) (C := RX6) (T := TX6) (N := 4) hx hb hts inlX6 hown hK hP 0 rfl rfl 0 (by decide) (hts (Cond.fieldLink RX6 19 "ChanceRings$Solver" "net" "LChanceRings$Net;") qw_528) (fun _ h9 => h9) rfl dX6_betterWay_1 ?_
  refine va_get (D := D) (ci := 2) (v := .ref n_kind) (C := RX2) (T := TX2) (N := 8) hx hb hts inlX2 hown hK hP 1 rfl rfl 1 (by decide) (hts (Cond.fieldLink RX6 61 "ChanceRings$Net" "kind" "[I") qw_531) (fun _ h9 => h9) rfl dX6_betterWay_4 ?_
  refine lv_iload_n hx hb dX6_betterWay_7 rfl (lv_at hl 1 rfl) ?_
  refine va_iald hx hb hK hP 2 0 rfl rfl (tr_in h_p0 (by decide) (by decide)) dX6_betterWay_8 ?_
  refine lv_topi (fun v_68837 v_68837_e => ?_)
  have h_v_68837 : 0 ≤ (v_68837 : Int32).toInt ∧ (v_68837 : Int32).toInt ≤ 3 := by rw [v_68837_e]; exact h_n_fkind _
  refine lv_iconst (v := 1) hx hb dX6_betterWay_9 (by decide) ?_
  refine lv_icmp_ne (tgt := 17) hx hb dX6_betterWay_10 (by decide) (fun c_68838 => ?_) (fun c_68838 => ?_)
  · skip
    refine lv_iconst (v := (-1)) hx hb dX6_betterWay_17 (by decide) ?_
    refine lv_istore (lv' := [(4, .int (-1)), (0, .ref sv), (1, .int p0), (2, .int p1), (3, .ref vs)]) hx hb dX6_betterWay_18 hl (by decide) rfl (fun ls hl => ?_)
    refine lv_iload_n hx hb dX6_betterWay_20 rfl (lv_at hl 3 rfl) ?_
    refine lv_istore (lv' := [(5, .int p1), (4, .int (-1)), (0, .ref sv), (1, .int p0), (2, .int p1), (3, .ref vs)]) hx hb dX6_betterWay_21 hl (by decide) rfl (fun ls hl => ?_)
    refine lv_iconst (v := 0) hx hb dX6_betterWay_23 (by decide) ?_
    refine lv_istore (lv' := [(6, .int 0), (5, .int p1), (4, .int (-1)), (0, .ref sv), (1, .int p0), (2, .int p1), (3, .ref vs)]) hx hb dX6_betterWay_24 hl (by decide) rfl (fun ls hl => ?_)
    have lp_68918 : ∀ (n_68918 : Nat) (x_68916 : Int32) (x_68917 : Int32) (ls : Array Slot), (0 ≤ (x_68916 : Int32).toInt ∧ (x_68916 : Int32).toInt ≤ 3) → (0 ≤ (x_68917 : Int32).toInt ∧ (x_68917 : Int32).toInt ≤ 2) → (3 - x_68916.toInt < (n_68918 : Int)) → lv_has ls 9 [(6, .int x_68916), (5, .int x_68917), (4, .int (-1)), (0, .ref sv), (1, .int p0), (2, .int p1), (3, .ref vs)] → W p l e (headSpec (.code yX6_betterWay cX6_betterWay 9 (some .int) :: wsL_law) ({ frames := 1, cells := 0, slots := 0, locals := 22 })).room s m args below meth c s.heap [] 0 0 (MQ below (vp_Si (fun r => 0 ≤ (r : Int32).toInt ∧ (r : Int32).toInt ≤ 2)) args s 0 0 (fun _ => False)) (F0 m 26 ls []) := by
      intro n_68918
      induction n_68918 with
      | zero =>
        intro x_68916 x_68917 ls h_x_68916 h_x_68917 hm_68918 hl
        exfalso; omega
      | succ n_68918 ih_68918 =>
        intro x_68916 x_68917 ls h_x_68916 h_x_68917 hm_68918 hl
        refine lv_iload hx hb dX6_betterWay_26 (lv_at hl 0 rfl) ?_
        refine lv_aload_n hx hb dX6_betterWay_28 rfl (lv_at hl 3 rfl) ?_
        refine va_get (D := D) (ci := 6) (v := .ref n) (C := RX6) (T := TX6) (N := 4) hx hb hts inlX6 hown hK hP 0 rfl rfl 0 (by decide) (hts (Cond.fieldLink RX6 19 "ChanceRings$Solver" "net" "LChanceRings$Net;") qw_528) (fun _ h9 => h9) rfl dX6_betterWay_29 ?_
        refine va_get (D := D) (ci := 2) (v := .ref n_ways) (C := RX2) (T := TX2) (N := 8) hx hb hts inlX2 hown hK hP 1 rfl rfl 4 (by decide) (hts (Cond.fieldLink RX6 68 "ChanceRings$Net" "ways" "[I") qw_532) (fun _ h9 => h9) rfl dX6_betterWay_32 ?_
        refine lv_iload_n hx hb dX6_betterWay_35 rfl (lv_at hl 4 rfl) ?_
        refine va_iald hx hb hK hP 3 0 rfl rfl (tr_in h_p0 (by decide) (by decide)) dX6_betterWay_36 ?_
        refine lv_topi (fun v_68919 v_68919_e => ?_)
        have h_v_68919 : 0 ≤ (v_68919 : Int32).toInt ∧ (v_68919 : Int32).toInt ≤ 3 := by rw [v_68919_e]; exact h_n_fways _
        refine lv_icmp_ge (tgt := 94) hx hb dX6_betterWay_37 (by decide) (fun c_68920 => ?_) (fun c_68920 => ?_)
        · skip
          refine lv_iload hx hb dX6_betterWay_94 (lv_at hl 1 rfl) ?_
          exact W.iret (v := x_68917) hx hb hr (fun t ht hW => ⟨x_68917, rfl, (tr_w h_x_68917 (by decide) (by decide)), ht⟩) (fun _ h => nomatch h) dX6_betterWay_96
        · skip
          have c_68920_i := Int32.lt_iff_toInt_lt.mp (Int32.not_le.mp c_68920)
          have h_68921 : 0 ≤ (x_68916 : Int32).toInt ∧ (x_68916 : Int32).toInt ≤ 2 := nr_lt_l h_x_68916 h_v_68919 c_68920_i (by decide) (by decide)
          have h_68922 : 1 ≤ (v_68919 : Int32).toInt ∧ (v_68919 : Int32).toInt ≤ 3 := nr_lt_r h_x_68916 h_v_68919 c_68920_i (by decide) (by decide)
          refine lv_aload_n hx hb dX6_betterWay_40 rfl (lv_at hl 6 rfl) ?_
          refine va_get (D := D) (ci := 10) (v := .ref vs_part) (C := RX10) (T := TX10) (N := 2) hx hb hts inlX10 hown hK hP 5 rfl rfl 0 (by decide) (hts (Cond.fieldLink RX6 71 "ChanceRings$Values" "part" "[J") qw_533) (fun _ h9 => h9) rfl dX6_betterWay_41 ?_
          refine lv_aload_n hx hb dX6_betterWay_44 rfl (lv_at hl 3 rfl) ?_
          refine va_get (D := D) (ci := 6) (v := .ref n) (C := RX6) (T := TX6) (N := 4) hx hb hts inlX6 hown hK hP 0 rfl rfl 0 (by decide) (hts (Cond.fieldLink RX6 19 "ChanceRings$Solver" "net" "LChanceRings$Net;") qw_528) (fun _ h9 => h9) rfl dX6_betterWay_45 ?_
          refine lv_iload_n hx hb dX6_betterWay_48 rfl (lv_at hl 4 rfl) ?_
          refine lv_iload hx hb dX6_betterWay_49 (lv_at hl 0 rfl) ?_
          have hPc := hP.sub (ws' := [(wO2 n n_nodes n_kind n_pay n_name n_ways n_held n_targets n_weights), (wI g n_targets 0 36 n_ftargets)]) [1, 4] rfl
          refine vp_callSi (va_Run.run (va_runV (As := [.int p0, .int x_68916]) (rest := [.ref vs_part]) ⟨hx, hb, hml, hown, hts⟩ (c_X2_target l D g n p0 x_68916 n_nodes n_kind n_pay n_name n_ways n_held n_targets n_weights n_ftargets (tr_w h_p0 (by decide) (by decide)) (tr_w h_68921 (by decide) (by decide)) (tr_w h_n_nodes (by decide) (by decide)) (tr_wa h_n_ftargets (by decide) (by decide))) (cwV 2 hts (tz_gV qw_534 qw_325 qw_326 qw_322 qw_327) rfl rfl rfl (by decide +kernel) ⟨Nat.le_of_ble_eq_true rfl, Nat.le_of_ble_eq_true rfl⟩) ⟨tz_blS, va_recv hK hPc (ci := 2) (q0 := 0) rfl rfl, tz_preS hPc hK⟩ rfl rfl hl.1 rfl (lv_room (Nat.le_of_ble_eq_true rfl)) dX6_betterWay_51 ⟨Nat.le_of_ble_eq_true rfl, Nat.le_of_ble_eq_true rfl⟩)) (fun r_68923 hw => ?_)
          have hw_68924 : 0 ≤ (r_68923 : Int32).toInt ∧ (r_68923 : Int32).toInt ≤ 11 := hw
          refine va_lald hx hb hK hP 6 1 rfl rfl (tr_in hw_68924 (by decide) (by decide)) dX6_betterWay_54 ?_
          refine lv_topl (fun w_68925 _ => ?_)
          refine lv_aload_n hx hb dX6_betterWay_55 rfl (lv_at hl 6 rfl) ?_
          refine va_get (D := D) (ci := 10) (v := .ref vs_part) (C := RX10) (T := TX10) (N := 2) hx hb hts inlX10 hown hK hP 5 rfl rfl 0 (by decide) (hts (Cond.fieldLink RX6 71 "ChanceRings$Values" "part" "[J") qw_533) (fun _ h9 => h9) rfl dX6_betterWay_56 ?_
          refine lv_aload_n hx hb dX6_betterWay_59 rfl (lv_at hl 3 rfl) ?_
          refine va_get (D := D) (ci := 6) (v := .ref n) (C := RX6) (T := TX6) (N := 4) hx hb hts inlX6 hown hK hP 0 rfl rfl 0 (by decide) (hts (Cond.fieldLink RX6 19 "ChanceRings$Solver" "net" "LChanceRings$Net;") qw_528) (fun _ h9 => h9) rfl dX6_betterWay_60 ?_
          refine lv_iload_n hx hb dX6_betterWay_63 rfl (lv_at hl 4 rfl) ?_
          refine lv_iload hx hb dX6_betterWay_64 (lv_at hl 1 rfl) ?_
          have hPc := hP.sub (ws' := [(wO2 n n_nodes n_kind n_pay n_name n_ways n_held n_targets n_weights), (wI g n_targets 0 36 n_ftargets)]) [1, 4] rfl
          refine vp_callSi (va_Run.run (va_runV (As := [.int p0, .int x_68917]) (rest := [.ref vs_part, .long w_68925]) ⟨hx, hb, hml, hown, hts⟩ (c_X2_target l D g n p0 x_68917 n_nodes n_kind n_pay n_name n_ways n_held n_targets n_weights n_ftargets (tr_w h_p0 (by decide) (by decide)) (tr_w h_x_68917 (by decide) (by decide)) (tr_w h_n_nodes (by decide) (by decide)) (tr_wa h_n_ftargets (by decide) (by decide))) (cwV 2 hts (tz_gV qw_534 qw_325 qw_326 qw_322 qw_327) rfl rfl rfl (by decide +kernel) ⟨Nat.le_of_ble_eq_true rfl, Nat.le_of_ble_eq_true rfl⟩) ⟨tz_blS, va_recv hK hPc (ci := 2) (q0 := 0) rfl rfl, tz_preS hPc hK⟩ rfl rfl hl.1 rfl (lv_room (Nat.le_of_ble_eq_true rfl)) dX6_betterWay_66 ⟨Nat.le_of_ble_eq_true rfl, Nat.le_of_ble_eq_true rfl⟩)) (fun r_68926 hw => ?_)
          have hw_68927 : 0 ≤ (r_68926 : Int32).toInt ∧ (r_68926 : Int32).toInt ≤ 11 := hw
          refine va_lald hx hb hK hP 6 1 rfl rfl (tr_in hw_68927 (by decide) (by decide)) dX6_betterWay_69 ?_
          refine lv_topl (fun w_68928 _ => ?_)
          refine lv_lsub hx hb dX6_betterWay_70 ?_
          refine lv_topl (fun w_68929 _ => ?_)
          refine lv_lstore (lv' := [(7, .long w_68929), (6, .int x_68916), (5, .int x_68917), (4, .int (-1)), (0, .ref sv), (1, .int p0), (2, .int p1), (3, .ref vs)]) hx hb dX6_betterWay_71 hl (by decide) rfl (fun ls hl => ?_)
          refine lv_iload hx hb dX6_betterWay_73 (lv_at hl 3 rfl) ?_
          refine lv_i2l (v := (-1)) hx hb dX6_betterWay_75 (by decide +kernel) ?_
          refine lv_lload hx hb dX6_betterWay_76 (lv_at hl 0 rfl) ?_
          refine lv_lmul hx hb dX6_betterWay_78 ?_
          refine lv_topl (fun w_68930 _ => ?_)
          refine lv_lconst (v := 0) hx hb dX6_betterWay_79 (by decide) ?_
          refine W.lcmp hx hb dX6_betterWay_80 ?_
          refine lv_topi (fun v_68931 v_68931_e => ?_)
          have h_v_68931 : (-1) ≤ (v_68931 : Int32).toInt ∧ (v_68931 : Int32).toInt ≤ 1 := by rw [v_68931_e]; exact tr_cmp _ _
          refine lv_if_le (tgt := 88) hx hb dX6_betterWay_81 (by decide) (fun c_68932 => ?_) (fun c_68932 => ?_)
          · skip
            have c_68932_i := Int32.le_iff_toInt_le.mp c_68932
            have h_68933 : (-1) ≤ (v_68931 : Int32).toInt ∧ (v_68931 : Int32).toInt ≤ 0 := nr_le_l h_v_68931 (⟨by decide, by decide⟩ : 0 ≤ (0 : Int32).toInt ∧ (0 : Int32).toInt ≤ 0) c_68932_i (by decide) (by decide)
            obtain ⟨v_68935, v_68935_e⟩ : ∃ y : Int32, y = x_68916 + Int32.ofInt 1 := ⟨_, rfl⟩
            have h_v_68935 : 1 ≤ (v_68935 : Int32).toInt ∧ (v_68935 : Int32).toInt ≤ 3 := by rw [v_68935_e]; exact tr_add h_68921 (⟨by decide, by decide⟩ : 1 ≤ (Int32.ofInt 1 : Int32).toInt ∧ (Int32.ofInt 1 : Int32).toInt ≤ 1) (by decide) (by decide) (by decide) (by decide)
            have q_v_68935 : v_68935.toInt = x_68916.toInt + 1 := by rw [v_68935_e]; exact tr_addE h_68921 (⟨by decide, by decide⟩ : 1 ≤ (Int32.ofInt 1 : Int32).toInt ∧ (Int32.ofInt 1 : Int32).toInt ≤ 1) (by decide) (by decide)
            refine lv_iinc (v := v_68935) (lv' := [(6, .int v_68935), (7, .long w_68929), (5, .int x_68917), (4, .int (-1)), (0, .ref sv), (1, .int p0), (2, .int p1), (3, .ref vs)]) hx hb dX6_betterWay_88 hl (k := 1) rfl v_68935_e.symm (by decide) rfl (fun ls hl => ?_)
            refine lv_goto (tgt := 26) hx hb dX6_betterWay_91 (by decide) ?_
            exact ih_68918 v_68935 x_68917 ls (tr_w h_v_68935 (by decide) (by decide)) (tr_w h_x_68917 (by decide) (by decide)) (by (first | (clear h_p0 h_p1 h_n_nodes h_v_68837 hw_68924 hw_68927 h_v_68931 c_68932_i h_68933; omega) | omega)) (lv_sub hl [0, 2, 3, 4, 5, 6, 7] rfl)
          · skip
            have c_68932_i := Int32.lt_iff_toInt_lt.mp (Int32.not_le.mp c_68932)
            have h_68934 : 1 ≤ (v_68931 : Int32).toInt ∧ (v_68931 : Int32).toInt ≤ 1 := nr_lt_r (⟨by decide, by decide⟩ : 0 ≤ (0 : Int32).toInt ∧ (0 : Int32).toInt ≤ 0) h_v_68931 c_68932_i (by decide) (by decide)
            refine lv_iload hx hb dX6_betterWay_84 (lv_at hl 1 rfl) ?_
            refine lv_istore (lv' := [(5, .int x_68916), (7, .long w_68929), (6, .int x_68916), (4, .int (-1)), (0, .ref sv), (1, .int p0), (2, .int p1), (3, .ref vs)]) hx hb dX6_betterWay_86 hl (by decide) rfl (fun ls hl => ?_)
            obtain ⟨v_68936, v_68936_e⟩ : ∃ y : Int32, y = x_68916 + Int32.ofInt 1 := ⟨_, rfl⟩
            have h_v_68936 : 1 ≤ (v_68936 : Int32).toInt ∧ (v_68936 : Int32).toInt ≤ 3 := by rw [v_68936_e]; exact tr_add h_68921 (⟨by decide, by decide⟩ : 1 ≤ (Int32.ofInt 1 : Int32).toInt ∧ (Int32.ofInt 1 : Int32).toInt ≤ 1) (by decide) (by decide) (by decide) (by decide)
            have q_v_68936 : v_68936.toInt = x_68916.toInt + 1 := by rw [v_68936_e]; exact tr_addE h_68921 (⟨by decide, by decide⟩ : 1 ≤ (Int32.ofInt 1 : Int32).toInt ∧ (Int32.ofInt 1 : Int32).toInt ≤ 1) (by decide) (by decide)
            refine lv_iinc (v := v_68936) (lv' := [(6, .int v_68936), (5, .int x_68916), (7, .long w_68929), (4, .int (-1)), (0, .ref sv), (1, .int p0), (2, .int p1), (3, .ref vs)]) hx hb dX6_betterWay_88 hl (k := 2) rfl v_68936_e.symm (by decide) rfl (fun ls hl => ?_)
            refine lv_goto (tgt := 26) hx hb dX6_betterWay_91 (by decide) ?_
            exact ih_68918 v_68936 x_68916 ls (tr_w h_v_68936 (by decide) (by decide)) (tr_w h_68921 (by decide) (by decide)) (by (first | (clear h_p0 h_p1 h_n_nodes h_v_68837 h_x_68917 hw_68924 hw_68927 h_v_68931 c_68932_i h_68934; omega) | omega)) (lv_sub hl [0, 1, 3, 4, 5, 6, 7] rfl)
    exact lp_68918 4 0 p1 ls (⟨by decide, by decide⟩ : 0 ≤ (0 : Int32).toInt ∧ (0 : Int32).toInt ≤ 3) (tr_w h_p1 (by decide) (by decide)) (by decide) (lv_sub hl [0, 1, 2, 3, 4, 5, 6] rfl)
  · skip
    have c_68838_i : (v_68837 : Int32).toInt = (1 : Int32).toInt := congrArg Int32.toInt c_68838
    have h_68839 : 1 ≤ (v_68837 : Int32).toInt ∧ (v_68837 : Int32).toInt ≤ 1 := nr_eq_l h_v_68837 (⟨by decide, by decide⟩ : 1 ≤ (1 : Int32).toInt ∧ (1 : Int32).toInt ≤ 1) c_68838_i (by decide) (by decide)
    refine lv_iconst (v := 1) hx hb dX6_betterWay_13 (by decide) ?_
    refine lv_goto (tgt := 18) hx hb dX6_betterWay_14 (by decide) ?_
    refine lv_istore (lv' := [(4, .int 1), (0, .ref sv), (1, .int p0), (2, .int p1), (3, .ref vs)]) hx hb dX6_betterWay_18 hl (by decide) rfl (fun ls hl => ?_)
    refine lv_iload_n hx hb dX6_betterWay_20 rfl (lv_at hl 3 rfl) ?_
    refine lv_istore (lv' := [(5, .int p1), (4, .int 1), (0, .ref sv), (1, .int p0), (2, .int p1), (3, .ref vs)]) hx hb dX6_betterWay_21 hl (by decide) rfl (fun ls hl => ?_)
    refine lv_iconst (v := 0) hx hb dX6_betterWay_23 (by decide) ?_
    refine lv_istore (lv' := [(6, .int 0), (5, .int p1), (4, .int 1), (0, .ref sv), (1, .int p0), (2, .int p1), (3, .ref vs)]) hx hb dX6_betterWay_24 hl (by decide) rfl (fun ls hl => ?_)
    have lp_69015 : ∀ (n_69015 : Nat) (x_69013 : Int32) (x_69014 : Int32) (ls : Array Slot), (0 ≤ (x_69013 : Int32).toInt ∧ (x_69013 : Int32).toInt ≤ 3) → (0 ≤ (x_69014 : Int32).toInt ∧ (x_69014 : Int32).toInt ≤ 2) → (3 - x_69013.toInt < (n_69015 : Int)) → lv_has ls 9 [(6, .int x_69013), (5, .int x_69014), (4, .int 1), (0, .ref sv), (1, .int p0), (2, .int p1), (3, .ref vs)] → W p l e (headSpec (.code yX6_betterWay cX6_betterWay 9 (some .int) :: wsL_law) ({ frames := 1, cells := 0, slots := 0, locals := 22 })).room s m args below meth c s.heap [] 0 0 (MQ below (vp_Si (fun r => 0 ≤ (r : Int32).toInt ∧ (r : Int32).toInt ≤ 2)) args s 0 0 (fun _ => False)) (F0 m 26 ls []) := by
      intro n_69015
      induction n_69015 with
      | zero =>
        intro x_69013 x_69014 ls h_x_69013 h_x_69014 hm_69015 hl
        exfalso; omega
      | succ n_69015 ih_69015 =>
        intro x_69013 x_69014 ls h_x_69013 h_x_69014 hm_69015 hl
        refine lv_iload hx hb dX6_betterWay_26 (lv_at hl 0 rfl) ?_
        refine lv_aload_n hx hb dX6_betterWay_28 rfl (lv_at hl 3 rfl) ?_
        refine va_get (D := D) (ci := 6) (v := .ref n) (C := RX6) (T := TX6) (N := 4) hx hb hts inlX6 hown hK hP 0 rfl rfl 0 (by decide) (hts (Cond.fieldLink RX6 19 "ChanceRings$Solver" "net" "LChanceRings$Net;") qw_528) (fun _ h9 => h9) rfl dX6_betterWay_29 ?_
        refine va_get (D := D) (ci := 2) (v := .ref n_ways) (C := RX2) (T := TX2) (N := 8) hx hb hts inlX2 hown hK hP 1 rfl rfl 4 (by decide) (hts (Cond.fieldLink RX6 68 "ChanceRings$Net" "ways" "[I") qw_532) (fun _ h9 => h9) rfl dX6_betterWay_32 ?_
        refine lv_iload_n hx hb dX6_betterWay_35 rfl (lv_at hl 4 rfl) ?_
        refine va_iald hx hb hK hP 3 0 rfl rfl (tr_in h_p0 (by decide) (by decide)) dX6_betterWay_36 ?_
        refine lv_topi (fun v_69016 v_69016_e => ?_)
        have h_v_69016 : 0 ≤ (v_69016 : Int32).toInt ∧ (v_69016 : Int32).toInt ≤ 3 := by rw [v_69016_e]; exact h_n_fways _
        refine lv_icmp_ge (tgt := 94) hx hb dX6_betterWay_37 (by decide) (fun c_69017 => ?_) (fun c_69017 => ?_)
        · skip
          refine lv_iload hx hb dX6_betterWay_94 (lv_at hl 1 rfl) ?_
          exact W.iret (v := x_69014) hx hb hr (fun t ht hW => ⟨x_69014, rfl, (tr_w h_x_69014 (by decide) (by decide)), ht⟩) (fun _ h => nomatch h) dX6_betterWay_96
        · skip
          have c_69017_i := Int32.lt_iff_toInt_lt.mp (Int32.not_le.mp c_69017)
          have h_69018 : 0 ≤ (x_69013 : Int32).toInt ∧ (x_69013 : Int32).toInt ≤ 2 := nr_lt_l h_x_69013 h_v_69016 c_69017_i (by decide) (by decide)
          have h_69019 : 1 ≤ (v_69016 : Int32).toInt ∧ (v_69016 : Int32).toInt ≤ 3 := nr_lt_r h_x_69013 h_v_69016 c_69017_i (by decide) (by decide)
          refine lv_aload_n hx hb dX6_betterWay_40 rfl (lv_at hl 6 rfl) ?_
          refine va_get (D := D) (ci := 10) (v := .ref vs_part) (C := RX10) (T := TX10) (N := 2) hx hb hts inlX10 hown hK hP 5 rfl rfl 0 (by decide) (hts (Cond.fieldLink RX6 71 "ChanceRings$Values" "part" "[J") qw_533) (fun _ h9 => h9) rfl dX6_betterWay_41 ?_
          refine lv_aload_n hx hb dX6_betterWay_44 rfl (lv_at hl 3 rfl) ?_
          refine va_get (D := D) (ci := 6) (v := .ref n) (C := RX6) (T := TX6) (N := 4) hx hb hts inlX6 hown hK hP 0 rfl rfl 0 (by decide) (hts (Cond.fieldLink RX6 19 "ChanceRings$Solver" "net" "LChanceRings$Net;") qw_528) (fun _ h9 => h9) rfl dX6_betterWay_45 ?_
          refine lv_iload_n hx hb dX6_betterWay_48 rfl (lv_at hl 4 rfl) ?_
          refine lv_iload hx hb dX6_betterWay_49 (lv_at hl 0 rfl) ?_
          have hPc := hP.sub (ws' := [(wO2 n n_nodes n_kind n_pay n_name n_ways n_held n_targets n_weights), (wI g n_targets 0 36 n_ftargets)]) [1, 4] rfl
          refine vp_callSi (va_Run.run (va_runV (As := [.int p0, .int x_69013]) (rest := [.ref vs_part]) ⟨hx, hb, hml, hown, hts⟩ (c_X2_target l D g n p0 x_69013 n_nodes n_kind n_pay n_name n_ways n_held n_targets n_weights n_ftargets (tr_w h_p0 (by decide) (by decide)) (tr_w h_69018 (by decide) (by decide)) (tr_w h_n_nodes (by decide) (by decide)) (tr_wa h_n_ftargets (by decide) (by decide))) (cwV 2 hts (tz_gV qw_534 qw_325 qw_326 qw_322 qw_327) rfl rfl rfl (by decide +kernel) ⟨Nat.le_of_ble_eq_true rfl, Nat.le_of_ble_eq_true rfl⟩) ⟨tz_blS, va_recv hK hPc (ci := 2) (q0 := 0) rfl rfl, tz_preS hPc hK⟩ rfl rfl hl.1 rfl (lv_room (Nat.le_of_ble_eq_true rfl)) dX6_betterWay_51 ⟨Nat.le_of_ble_eq_true rfl, Nat.le_of_ble_eq_true rfl⟩)) (fun r_69020 hw => ?_)
          have hw_69021 : 0 ≤ (r_69020 : Int32).toInt ∧ (r_69020 : Int32).toInt ≤ 11 := hw
          refine va_lald hx hb hK hP 6 1 rfl rfl (tr_in hw_69021 (by decide) (by decide)) dX6_betterWay_54 ?_
          refine lv_topl (fun w_69022 _ => ?_)
          refine lv_aload_n hx hb dX6_betterWay_55 rfl (lv_at hl 6 rfl) ?_
          refine va_get (D := D) (ci := 10) (v := .ref vs_part) (C := RX10) (T := TX10) (N := 2) hx hb hts inlX10 hown hK hP 5 rfl rfl 0 (by decide) (hts (Cond.fieldLink RX6 71 "ChanceRings$Values" "part" "[J") qw_533) (fun _ h9 => h9) rfl dX6_betterWay_56 ?_
          refine lv_aload_n hx hb dX6_betterWay_59 rfl (lv_at hl 3 rfl) ?_
          refine va_get (D := D) (ci := 6) (v := .ref n) (C := RX6) (T := TX6) (N := 4) hx hb hts inlX6 hown hK hP 0 rfl rfl 0 (by decide) (hts (Cond.fieldLink RX6 19 "ChanceRings$Solver" "net" "LChanceRings$Net;") qw_528) (fun _ h9 => h9) rfl dX6_betterWay_60 ?_
          refine lv_iload_n hx hb dX6_betterWay_63 rfl (lv_at hl 4 rfl) ?_
          refine lv_iload hx hb dX6_betterWay_64 (lv_at hl 1 rfl) ?_
          have hPc := hP.sub (ws' := [(wO2 n n_nodes n_kind n_pay n_name n_ways n_held n_targets n_weights), (wI g n_targets 0 36 n_ftargets)]) [1, 4] rfl
          refine vp_callSi (va_Run.run (va_runV (As := [.int p0, .int x_69014]) (rest := [.ref vs_part, .long w_69022]) ⟨hx, hb, hml, hown, hts⟩ (c_X2_target l D g n p0 x_69014 n_nodes n_kind n_pay n_name n_ways n_held n_targets n_weights n_ftargets (tr_w h_p0 (by decide) (by decide)) (tr_w h_x_69014 (by decide) (by decide)) (tr_w h_n_nodes (by decide) (by decide)) (tr_wa h_n_ftargets (by decide) (by decide))) (cwV 2 hts (tz_gV qw_534 qw_325 qw_326 qw_322 qw_327) rfl rfl rfl (by decide +kernel) ⟨Nat.le_of_ble_eq_true rfl, Nat.le_of_ble_eq_true rfl⟩) ⟨tz_blS, va_recv hK hPc (ci := 2) (q0 := 0) rfl rfl, tz_preS hPc hK⟩ rfl rfl hl.1 rfl (lv_room (Nat.le_of_ble_eq_true rfl)) dX6_betterWay_66 ⟨Nat.le_of_ble_eq_true rfl, Nat.le_of_ble_eq_true rfl⟩)) (fun r_69023 hw => ?_)
          have hw_69024 : 0 ≤ (r_69023 : Int32).toInt ∧ (r_69023 : Int32).toInt ≤ 11 := hw
          refine va_lald hx hb hK hP 6 1 rfl rfl (tr_in hw_69024 (by decide) (by decide)) dX6_betterWay_69 ?_
          refine lv_topl (fun w_69025 _ => ?_)
          refine lv_lsub hx hb dX6_betterWay_70 ?_
          refine lv_topl (fun w_69026 _ => ?_)
          refine lv_lstore (lv' := [(7, .long w_69026), (6, .int x_69013), (5, .int x_69014), (4, .int 1), (0, .ref sv), (1, .int p0), (2, .int p1), (3, .ref vs)]) hx hb dX6_betterWay_71 hl (by decide) rfl (fun ls hl => ?_)
          refine lv_iload hx hb dX6_betterWay_73 (lv_at hl 3 rfl) ?_
          refine lv_i2l (v := 1) hx hb dX6_betterWay_75 (by decide +kernel) ?_
          refine lv_lload hx hb dX6_betterWay_76 (lv_at hl 0 rfl) ?_
          refine lv_lmul hx hb dX6_betterWay_78 ?_
          refine lv_topl (fun w_69027 _ => ?_)
          refine lv_lconst (v := 0) hx hb dX6_betterWay_79 (by decide) ?_
          refine W.lcmp hx hb dX6_betterWay_80 ?_
          refine lv_topi (fun v_69028 v_69028_e => ?_)
          have h_v_69028 : (-1) ≤ (v_69028 : Int32).toInt ∧ (v_69028 : Int32).toInt ≤ 1 := by rw [v_69028_e]; exact tr_cmp _ _
          refine lv_if_le (tgt := 88) hx hb dX6_betterWay_81 (by decide) (fun c_69029 => ?_) (fun c_69029 => ?_)
          · skip
            have c_69029_i := Int32.le_iff_toInt_le.mp c_69029
            have h_69030 : (-1) ≤ (v_69028 : Int32).toInt ∧ (v_69028 : Int32).toInt ≤ 0 := nr_le_l h_v_69028 (⟨by decide, by decide⟩ : 0 ≤ (0 : Int32).toInt ∧ (0 : Int32).toInt ≤ 0) c_69029_i (by decide) (by decide)
            obtain ⟨v_69032, v_69032_e⟩ : ∃ y : Int32, y = x_69013 + Int32.ofInt 1 := ⟨_, rfl⟩
            have h_v_69032 : 1 ≤ (v_69032 : Int32).toInt ∧ (v_69032 : Int32).toInt ≤ 3 := by rw [v_69032_e]; exact tr_add h_69018 (⟨by decide, by decide⟩ : 1 ≤ (Int32.ofInt 1 : Int32).toInt ∧ (Int32.ofInt 1 : Int32).toInt ≤ 1) (by decide) (by decide) (by decide) (by decide)
            have q_v_69032 : v_69032.toInt = x_69013.toInt + 1 := by rw [v_69032_e]; exact tr_addE h_69018 (⟨by decide, by decide⟩ : 1 ≤ (Int32.ofInt 1 : Int32).toInt ∧ (Int32.ofInt 1 : Int32).toInt ≤ 1) (by decide) (by decide)
            refine lv_iinc (v := v_69032) (lv' := [(6, .int v_69032), (7, .long w_69026), (5, .int x_69014), (4, .int 1), (0, .ref sv), (1, .int p0), (2, .int p1), (3, .ref vs)]) hx hb dX6_betterWay_88 hl (k := 1) rfl v_69032_e.symm (by decide) rfl (fun ls hl => ?_)
            refine lv_goto (tgt := 26) hx hb dX6_betterWay_91 (by decide) ?_
            exact ih_69015 v_69032 x_69014 ls (tr_w h_v_69032 (by decide) (by decide)) (tr_w h_x_69014 (by decide) (by decide)) (by (first | (clear h_p0 h_p1 h_n_nodes h_v_68837 c_68838_i h_68839 hw_69021 hw_69024 h_v_69028 c_69029_i h_69030; omega) | omega)) (lv_sub hl [0, 2, 3, 4, 5, 6, 7] rfl)
          · skip
            have c_69029_i := Int32.lt_iff_toInt_lt.mp (Int32.not_le.mp c_69029)
            have h_69031 : 1 ≤ (v_69028 : Int32).toInt ∧ (v_69028 : Int32).toInt ≤ 1 := nr_lt_r (⟨by decide, by decide⟩ : 0 ≤ (0 : Int32).toInt ∧ (0 : Int32).toInt ≤ 0) h_v_69028 c_69029_i (by decide) (by decide)
            refine lv_iload hx hb dX6_betterWay_84 (lv_at hl 1 rfl) ?_
            refine lv_istore (lv' := [(5, .int x_69013), (7, .long w_69026), (6, .int x_69013), (4, .int 1), (0, .ref sv), (1, .int p0), (2, .int p1), (3, .ref vs)]) hx hb dX6_betterWay_86 hl (by decide) rfl (fun ls hl => ?_)
            obtain ⟨v_69033, v_69033_e⟩ : ∃ y : Int32, y = x_69013 + Int32.ofInt 1 := ⟨_, rfl⟩
            have h_v_69033 : 1 ≤ (v_69033 : Int32).toInt ∧ (v_69033 : Int32).toInt ≤ 3 := by rw [v_69033_e]; exact tr_add h_69018 (⟨by decide, by decide⟩ : 1 ≤ (Int32.ofInt 1 : Int32).toInt ∧ (Int32.ofInt 1 : Int32).toInt ≤ 1) (by decide) (by decide) (by decide) (by decide)
            have q_v_69033 : v_69033.toInt = x_69013.toInt + 1 := by rw [v_69033_e]; exact tr_addE h_69018 (⟨by decide, by decide⟩ : 1 ≤ (Int32.ofInt 1 : Int32).toInt ∧ (Int32.ofInt 1 : Int32).toInt ≤ 1) (by decide) (by decide)
            refine lv_iinc (v := v_69033) (lv' := [(6, .int v_69033), (5, .int x_69013), (7, .long w_69026), (4, .int 1), (0, .ref sv), (1, .int p0), (2, .int p1), (3, .ref vs)]) hx hb dX6_betterWay_88 hl (k := 2) rfl v_69033_e.symm (by decide) rfl (fun ls hl => ?_)
            refine lv_goto (tgt := 26) hx hb dX6_betterWay_91 (by decide) ?_
            exact ih_69015 v_69033 x_69013 ls (tr_w h_v_69033 (by decide) (by decide)) (tr_w h_69018 (by decide) (by decide)) (by (first | (clear h_p0 h_p1 h_n_nodes h_v_68837 c_68838_i h_68839 h_x_69014 hw_69021 hw_69024 h_v_69028 c_69029_i h_69031; omega) | omega)) (lv_sub hl [0, 1, 3, 4, 5, 6, 7] rfl)
    exact lp_69015 4 0 p1 ls (⟨by decide, by decide⟩ : 0 ≤ (0 : Int32).toInt ∧ (0 : Int32).toInt ≤ 3) (tr_w h_p1 (by decide) (by decide)) (by decide) (lv_sub hl [0, 1, 2, 3, 4, 5, 6] rfl)
set_option maxHeartbeats 4000000 in
set_option maxRecDepth 100000 in
theorem c_X6_turnOpen (l : Launch) (D : va_G) (g : Nat → ClassId) (sz : Nat) (sv : Nat) (p0 : Int32) (pl : Nat) (vs : Nat) (p3 : Int32) (n : Nat) (co : Nat) (sv_keep : Nat) (sv_scaled : Nat) (n_nodes : Int32) (n_kind : Nat) (n_pay : Nat) (n_name : Nat) (n_ways : Nat) (n_held : Nat) (n_targets : Nat) (n_weights : Nat) (n_fkind : Nat → Int32) (n_fways : Nat → Int32) (n_fheld : Nat → Int32) (n_ftargets : Nat → Int32) (vs_part : Nat) (vsw : Int64) (vsp : Nat → Int64) (plf : Nat → Int32) (h_n_nodes : 0 ≤ (n_nodes : Int32).toInt ∧ (n_nodes : Int32).toInt ≤ 12) (h_n_fkind : ∀ j : Nat, 0 ≤ (n_fkind j).toInt ∧ (n_fkind j).toInt ≤ 3) (h_n_fways : ∀ j : Nat, 0 ≤ (n_fways j).toInt ∧ (n_fways j).toInt ≤ 3) (h_n_fheld : ∀ j : Nat, (-1) ≤ (n_fheld j).toInt ∧ (n_fheld j).toInt ≤ 2) (h_n_ftargets : ∀ j : Nat, 0 ≤ (n_ftargets j).toInt ∧ (n_ftargets j).toInt ≤ 11) (h_plf : ∀ j : Nat, 0 ≤ (plf j).toInt ∧ (plf j).toInt ≤ 2) : Met l yX6_turnOpen (.code yX6_turnOpen cX6_turnOpen 8 (some .int) :: wsL_law) ({ frames := 2, cells := 0, slots := 0, locals := 50 }) (va_Pc [.ref sv, .int p0, .ref pl, .ref vs, .int p3] (fun U => U.heap.size = sz ∧ va_P D vwCl [(wO6 sv n co sv_keep sv_scaled), (wO2 n n_nodes n_kind n_pay n_name n_ways n_held n_targets n_weights), (wI g n_kind 0 12 n_fkind), (wI g n_ways 0 12 n_fways), (wI g n_held 0 12 n_fheld), (wI g n_targets 0 36 n_ftargets), (wO10 vs vs_part vsw), (wJ g vs_part 1 12 vsp), (wI g pl 0 12 plf)] U.heap ∧ va_K D vwCl (TY g) U ∧ va_D (fun _ => True) [(wO6 sv n co sv_keep sv_scaled), (wO2 n n_nodes n_kind n_pay n_name n_ways n_held n_targets n_weights), (wI g n_kind 0 12 n_fkind), (wI g n_ways 0 12 n_fways), (wI g n_held 0 12 n_fheld), (wI g n_targets 0 36 n_ftargets), (wO10 vs vs_part vsw), (wJ g vs_part 1 12 vsp), (wI g pl 0 12 plf)])) (va_Qi (fun r (_ : Unit) => True) (fun _ t => ∃ opl : Nat → Int32, (∀ j : Nat, 0 ≤ (opl j).toInt ∧ (opl j).toInt ≤ 2) ∧ va_P D vwCl [(wO6 sv n co sv_keep sv_scaled), (wO2 n n_nodes n_kind n_pay n_name n_ways n_held n_targets n_weights), (wI g n_kind 0 12 n_fkind), (wI g n_ways 0 12 n_fways), (wI g n_held 0 12 n_fheld), (wI g n_targets 0 36 n_ftargets), (wO10 vs vs_part vsw), (wJ g vs_part 1 12 vsp), (wI g pl 0 12 opl)] t.heap ∧ va_D (va_A [(wO6 sv n co sv_keep sv_scaled), (wO2 n n_nodes n_kind n_pay n_name n_ways n_held n_targets n_weights), (wI g n_kind 0 12 n_fkind), (wI g n_ways 0 12 n_fways), (wI g n_held 0 12 n_fheld), (wI g n_targets 0 36 n_ftargets), (wO10 vs vs_part vsw), (wJ g vs_part 1 12 vsp), (wI g pl 0 12 plf)] sz) [(wO6 sv n co sv_keep sv_scaled), (wO2 n n_nodes n_kind n_pay n_name n_ways n_held n_targets n_weights), (wI g n_kind 0 12 n_fkind), (wI g n_ways 0 12 n_fways), (wI g n_held 0 12 n_fheld), (wI g n_targets 0 36 n_ftargets), (wO10 vs vs_part vsw), (wJ g vs_part 1 12 vsp), (wI g pl 0 12 opl)]) (va_A [(wO6 sv n co sv_keep sv_scaled), (wO2 n n_nodes n_kind n_pay n_name n_ways n_held n_targets n_weights), (wI g n_kind 0 12 n_fkind), (wI g n_ways 0 12 n_fways), (wI g n_held 0 12 n_fheld), (wI g n_targets 0 36 n_ftargets), (wO10 vs vs_part vsw), (wJ g vs_part 1 12 vsp), (wI g pl 0 12 plf)] sz)) 0 0 (va_A [(wO6 sv n co sv_keep sv_scaled), (wO2 n n_nodes n_kind n_pay n_name n_ways n_held n_targets n_weights), (wI g n_kind 0 12 n_fkind), (wI g n_ways 0 12 n_fways), (wI g n_held 0 12 n_fheld), (wI g n_targets 0 36 n_ftargets), (wO10 vs vs_part vsw), (wJ g vs_part 1 12 vsp), (wI g pl 0 12 plf)] sz) := by
  refine Met.ofW (cc := cX6_turnOpen) (maxL := 8) (ret := (some .int)) (by decide) rfl ?_
  intro p e s m args below meth c s₁ B hml hv
  obtain ⟨ha, hsz, hP, hK, hD0⟩ := hv
  have hx := B.exec
  have hb := B.bytes
  have hr := B.returns
  have hts0 := atoms_spec (ws := (.code yX6_turnOpen cX6_turnOpen 8 (some .int) :: wsL_law)) B.pre
  have hts : ∀ w ∈ wsL_law, w.before args s = true := fun w h => hts0 w (List.mem_cons_of_mem _ h)
  have hown : s.vm.findClass RX6 = some m.cls := findClass_of_methodNamed B.named
  have hlocks := B.notSynchronized
  subst hsz
  have hD := hD0.self (sz := s.heap.size)
  generalize hAe : va_A [(wO6 sv n co sv_keep sv_scaled), (wO2 n n_nodes n_kind n_pay n_name n_ways n_held n_targets n_weights), (wI g n_kind 0 12 n_fkind), (wI g n_ways 0 12 n_fways), (wI g n_held 0 12 n_fheld), (wI g n_targets 0 36 n_ftargets), (wO10 vs vs_part vsw), (wJ g vs_part 1 12 vsp), (wI g pl 0 12 plf)] s.heap.size = A at hD ⊢
  have hA : ∀ q : Nat, s.heap.size ≤ q → A q := fun q h => by rw [← hAe]; exact Or.inr h
  have hS : va_S A s.heap s.heap [] := va_S.rf
  have hP : va_P D vwCl [(wO6 sv n co sv_keep sv_scaled), (wO2 n n_nodes n_kind n_pay n_name n_ways n_held n_targets n_weights), (wI g n_kind 0 12 n_fkind), (wI g n_ways 0 12 n_fways), (wI g n_held 0 12 n_fheld), (wI g n_targets 0 36 n_ftargets), (wO10 vs vs_part vsw), (wJ g vs_part 1 12 vsp), (wI g pl 0 12 plf)] s.heap := hP
  refine W.eq (g2 := entryFrame m ([.ref sv, .int p0, .ref pl, .ref vs, .int p3] : List Value).toArray 8) (by rw [ha]) ?_
  have hl := lv_entry ([.ref sv, .int p0, .ref pl, .ref vs, .int p3]) (n := 8) (Nat.le_of_ble_eq_true rfl)
  rw [lg_entry_eq]
  generalize (lg_sl ([.ref sv, .int p0, .ref pl, .ref vs, .int p3]) ++ List.replicate (8 - (lg_sl ([.ref sv, .int p0, .ref pl, .ref vs, .int p3])).length) Slot.unset).toArray = ls at hl ⊢
  have hl : lv_has ls 8 [(0, .ref sv), (1, .int p0), (2, .ref pl), (3, .ref vs), (4, .int p3)] := hl
  refine lv_iconst (v := 0) hx hb dX6_turnOpen_0 (by decide) ?_
  refine lv_istore (lv' := [(5, .int 0), (0, .ref sv), (1, .int p0), (2, .ref pl), (3, .ref vs), (4, .int p3)]) hx hb dX6_turnOpen_1 hl (by decide) rfl (fun ls hl => ?_)
  refine lv_iconst (v := 0) hx hb dX6_turnOpen_3 (by decide) ?_
  refine lv_istore (lv' := [(6, .int 0), (5, .int 0), (0, .ref sv), (1, .int p0), (2, .ref pl), (3, .ref vs), (4, .int p3)]) hx hb dX6_turnOpen_4 hl (by decide) rfl (fun ls hl => ?_)
  have lp_69649 : ∀ (n_69649 : Nat) (x_69646 : Int32) (x_69647 : Int32) (f_69648 : Nat → Int32) (H : Heap) (locs : List Loc) (ls : Array Slot), (0 ≤ (x_69646 : Int32).toInt ∧ (x_69646 : Int32).toInt ≤ 12) → (∀ j : Nat, 0 ≤ (f_69648 j).toInt ∧ (f_69648 j).toInt ≤ 2) → (12 - x_69646.toInt < (n_69649 : Int)) → va_P D vwCl [(wO6 sv n co sv_keep sv_scaled), (wO2 n n_nodes n_kind n_pay n_name n_ways n_held n_targets n_weights), (wI g n_kind 0 12 n_fkind), (wI g n_ways 0 12 n_fways), (wI g n_held 0 12 n_fheld), (wI g n_targets 0 36 n_ftargets), (wO10 vs vs_part vsw), (wJ g vs_part 1 12 vsp), (wI g pl 0 12 f_69648)] H → va_D A [(wO6 sv n co sv_keep sv_scaled), (wO2 n n_nodes n_kind n_pay n_name n_ways n_held n_targets n_weights), (wI g n_kind 0 12 n_fkind), (wI g n_ways 0 12 n_fways), (wI g n_held 0 12 n_fheld), (wI g n_targets 0 36 n_ftargets), (wO10 vs vs_part vsw), (wJ g vs_part 1 12 vsp), (wI g pl 0 12 f_69648)] → va_S A s.heap H locs → lv_has ls 8 [(6, .int x_69646), (5, .int x_69647), (0, .ref sv), (1, .int p0), (2, .ref pl), (3, .ref vs), (4, .int p3)] → W p l e (headSpec (.code yX6_turnOpen cX6_turnOpen 8 (some .int) :: wsL_law) ({ frames := 2, cells := 0, slots := 0, locals := 50 })).room s m args below meth c H locs 0 0 (MQ below (va_Qi (fun r (_ : Unit) => True) (fun _ t => ∃ opl : Nat → Int32, (∀ j : Nat, 0 ≤ (opl j).toInt ∧ (opl j).toInt ≤ 2) ∧ va_P D vwCl [(wO6 sv n co sv_keep sv_scaled), (wO2 n n_nodes n_kind n_pay n_name n_ways n_held n_targets n_weights), (wI g n_kind 0 12 n_fkind), (wI g n_ways 0 12 n_fways), (wI g n_held 0 12 n_fheld), (wI g n_targets 0 36 n_ftargets), (wO10 vs vs_part vsw), (wJ g vs_part 1 12 vsp), (wI g pl 0 12 opl)] t.heap ∧ va_D A [(wO6 sv n co sv_keep sv_scaled), (wO2 n n_nodes n_kind n_pay n_name n_ways n_held n_targets n_weights), (wI g n_kind 0 12 n_fkind), (wI g n_ways 0 12 n_fways), (wI g n_held 0 12 n_fheld), (wI g n_targets 0 36 n_ftargets), (wO10 vs vs_part vsw), (wJ g vs_part 1 12 vsp), (wI g pl 0 12 opl)]) A) args s 0 0 A) (F0 m 6 ls []) := by
    intro n_69649
    induction n_69649 with
    | zero =>
      intro x_69646 x_69647 f_69648 H locs ls h_x_69646 h_f_69648 hm_69649 hP hD hS hl
      exfalso; omega
    | succ n_69649 ih_69649 =>
      intro x_69646 x_69647 f_69648 H locs ls h_x_69646 h_f_69648 hm_69649 hP hD hS hl
      refine lv_iload hx hb dX6_turnOpen_6 (lv_at hl 0 rfl) ?_
      refine lv_aload_n hx hb dX6_turnOpen_8 rfl (lv_at hl 2 rfl) ?_
      refine va_get (D := D) (ci := 6) (v := .ref n) (C := RX6) (T := TX6) (N := 4) hx hb hts inlX6 hown hK hP 0 rfl rfl 0 (by decide) (hts (Cond.fieldLink RX6 19 "ChanceRings$Solver" "net" "LChanceRings$Net;") qw_528) (fun _ h9 => h9) rfl dX6_turnOpen_9 ?_
      refine va_get (D := D) (ci := 2) (v := .int n_nodes) (C := RX2) (T := TX2) (N := 8) hx hb hts inlX2 hown hK hP 1 rfl rfl 0 (by decide) (hts (Cond.fieldLink RX6 32 "ChanceRings$Net" "nodes" "I") qw_529) (fun _ h9 => h9) rfl dX6_turnOpen_12 ?_
      refine lv_icmp_ge (tgt := 93) hx hb dX6_turnOpen_15 (by decide) (fun c_69650 => ?_) (fun c_69650 => ?_)
      · skip
        refine lv_iload hx hb dX6_turnOpen_93 (lv_at hl 1 rfl) ?_
        have hP9 := hP.sub (ws' := [(wO6 sv n co sv_keep sv_scaled), (wO2 n n_nodes n_kind n_pay n_name n_ways n_held n_targets n_weights), (wI g n_kind 0 12 n_fkind), (wI g n_ways 0 12 n_fways), (wI g n_held 0 12 n_fheld), (wI g n_targets 0 36 n_ftargets), (wO10 vs vs_part vsw), (wJ g vs_part 1 12 vsp), (wI g pl 0 12 f_69648)]) [0, 1, 2, 3, 4, 5, 6, 7, 8] rfl
        have hD9 := hD.sub (ws' := [(wO6 sv n co sv_keep sv_scaled), (wO2 n n_nodes n_kind n_pay n_name n_ways n_held n_targets n_weights), (wI g n_kind 0 12 n_fkind), (wI g n_ways 0 12 n_fways), (wI g n_held 0 12 n_fheld), (wI g n_targets 0 36 n_ftargets), (wO10 vs vs_part vsw), (wJ g vs_part 1 12 vsp), (wI g pl 0 12 f_69648)]) [0, 1, 2, 3, 4, 5, 6, 7, 8] (by decide) rfl
        exact W.iret (v := x_69647) hx hb hr (fun t ht hW => ⟨⟨x_69647, (), rfl, trivial, f_69648, (tr_wa h_f_69648 (by decide) (by decide)), by rw [ht]; exact hP9, hD9⟩, hS.F ht⟩) hS.2.2 dX6_turnOpen_95
      · skip
        have c_69650_i := Int32.lt_iff_toInt_lt.mp (Int32.not_le.mp c_69650)
        have h_69651 : 0 ≤ (x_69646 : Int32).toInt ∧ (x_69646 : Int32).toInt ≤ 11 := nr_lt_l h_x_69646 h_n_nodes c_69650_i (by decide) (by decide)
        have h_69652 : 1 ≤ (n_nodes : Int32).toInt ∧ (n_nodes : Int32).toInt ≤ 12 := nr_lt_r h_x_69646 h_n_nodes c_69650_i (by decide) (by decide)
        refine lv_aload_n hx hb dX6_turnOpen_18 rfl (lv_at hl 2 rfl) ?_
        refine va_get (D := D) (ci := 6) (v := .ref n) (C := RX6) (T := TX6) (N := 4) hx hb hts inlX6 hown hK hP 0 rfl rfl 0 (by decide) (hts (Cond.fieldLink RX6 19 "ChanceRings$Solver" "net" "LChanceRings$Net;") qw_528) (fun _ h9 => h9) rfl dX6_turnOpen_19 ?_
        refine va_get (D := D) (ci := 2) (v := .ref n_kind) (C := RX2) (T := TX2) (N := 8) hx hb hts inlX2 hown hK hP 1 rfl rfl 1 (by decide) (hts (Cond.fieldLink RX6 61 "ChanceRings$Net" "kind" "[I") qw_531) (fun _ h9 => h9) rfl dX6_turnOpen_22 ?_
        refine lv_iload hx hb dX6_turnOpen_25 (lv_at hl 0 rfl) ?_
        refine va_iald hx hb hK hP 2 0 rfl rfl (tr_in h_69651 (by decide) (by decide)) dX6_turnOpen_27 ?_
        refine lv_topi (fun v_69653 v_69653_e => ?_)
        have h_v_69653 : 0 ≤ (v_69653 : Int32).toInt ∧ (v_69653 : Int32).toInt ≤ 3 := by rw [v_69653_e]; exact h_n_fkind _
        refine lv_iload_n hx hb dX6_turnOpen_28 rfl (lv_at hl 3 rfl) ?_
        refine lv_icmp_ne (tgt := 87) hx hb dX6_turnOpen_29 (by decide) (fun c_69654 => ?_) (fun c_69654 => ?_)
        · skip
          obtain ⟨v_69655, v_69655_e⟩ : ∃ y : Int32, y = x_69646 + Int32.ofInt 1 := ⟨_, rfl⟩
          have h_v_69655 : 1 ≤ (v_69655 : Int32).toInt ∧ (v_69655 : Int32).toInt ≤ 12 := by rw [v_69655_e]; exact tr_add h_69651 (⟨by decide, by decide⟩ : 1 ≤ (Int32.ofInt 1 : Int32).toInt ∧ (Int32.ofInt 1 : Int32).toInt ≤ 1) (by decide) (by decide) (by decide) (by decide)
          have q_v_69655 : v_69655.toInt = x_69646.toInt + 1 := by rw [v_69655_e]; exact tr_addE h_69651 (⟨by decide, by decide⟩ : 1 ≤ (Int32.ofInt 1 : Int32).toInt ∧ (Int32.ofInt 1 : Int32).toInt ≤ 1) (by decide) (by decide)
          refine lv_iinc (v := v_69655) (lv' := [(6, .int v_69655), (5, .int x_69647), (0, .ref sv), (1, .int p0), (2, .ref pl), (3, .ref vs), (4, .int p3)]) hx hb dX6_turnOpen_87 hl (k := 0) rfl v_69655_e.symm (by decide) rfl (fun ls hl => ?_)
          refine lv_goto (tgt := 6) hx hb dX6_turnOpen_90 (by decide) ?_
          exact ih_69649 v_69655 x_69647 f_69648 H _ ls (tr_w h_v_69655 (by decide) (by decide)) (tr_wa h_f_69648 (by decide) (by decide)) (by omega) (hP.sub [0, 1, 2, 3, 4, 5, 6, 7, 8] rfl) (hD.sub [0, 1, 2, 3, 4, 5, 6, 7, 8] (by decide) rfl) hS (lv_sub hl [0, 1, 2, 3, 4, 5, 6] rfl)
        · skip
          refine lv_aload_n hx hb dX6_turnOpen_32 rfl (lv_at hl 2 rfl) ?_
          refine va_get (D := D) (ci := 6) (v := .ref n) (C := RX6) (T := TX6) (N := 4) hx hb hts inlX6 hown hK hP 0 rfl rfl 0 (by decide) (hts (Cond.fieldLink RX6 19 "ChanceRings$Solver" "net" "LChanceRings$Net;") qw_528) (fun _ h9 => h9) rfl dX6_turnOpen_33 ?_
          refine va_get (D := D) (ci := 2) (v := .ref n_held) (C := RX2) (T := TX2) (N := 8) hx hb hts inlX2 hown hK hP 1 rfl rfl 5 (by decide) (hts (Cond.fieldLink RX6 38 "ChanceRings$Net" "held" "[I") qw_530) (fun _ h9 => h9) rfl dX6_turnOpen_36 ?_
          refine lv_iload hx hb dX6_turnOpen_39 (lv_at hl 0 rfl) ?_
          refine va_iald hx hb hK hP 4 0 rfl rfl (tr_in h_69651 (by decide) (by decide)) dX6_turnOpen_41 ?_
          refine lv_topi (fun v_69656 v_69656_e => ?_)
          have h_v_69656 : (-1) ≤ (v_69656 : Int32).toInt ∧ (v_69656 : Int32).toInt ≤ 2 := by rw [v_69656_e]; exact h_n_fheld _
          refine lv_iconst (v := (-1)) hx hb dX6_turnOpen_42 (by decide) ?_
          refine lv_icmp_ne (tgt := 87) hx hb dX6_turnOpen_43 (by decide) (fun c_69657 => ?_) (fun c_69657 => ?_)
          · skip
            have c_69657_i : ¬ (v_69656 : Int32).toInt = ((-1) : Int32).toInt := (fun q => c_69657 (Int32.toInt_inj.mp q))
            have h_69658 : 0 ≤ (v_69656 : Int32).toInt ∧ (v_69656 : Int32).toInt ≤ 2 := nr_ne_l h_v_69656 (⟨by decide, by decide⟩ : (-1) ≤ ((-1) : Int32).toInt ∧ ((-1) : Int32).toInt ≤ (-1)) c_69657_i (by decide) (by decide)
            obtain ⟨v_69660, v_69660_e⟩ : ∃ y : Int32, y = x_69646 + Int32.ofInt 1 := ⟨_, rfl⟩
            have h_v_69660 : 1 ≤ (v_69660 : Int32).toInt ∧ (v_69660 : Int32).toInt ≤ 12 := by rw [v_69660_e]; exact tr_add h_69651 (⟨by decide, by decide⟩ : 1 ≤ (Int32.ofInt 1 : Int32).toInt ∧ (Int32.ofInt 1 : Int32).toInt ≤ 1) (by decide) (by decide) (by decide) (by decide)
            have q_v_69660 : v_69660.toInt = x_69646.toInt + 1 := by rw [v_69660_e]; exact tr_addE h_69651 (⟨by decide, by decide⟩ : 1 ≤ (Int32.ofInt 1 : Int32).toInt ∧ (Int32.ofInt 1 : Int32).toInt ≤ 1) (by decide) (by decide)
            refine lv_iinc (v := v_69660) (lv' := [(6, .int v_69660), (5, .int x_69647), (0, .ref sv), (1, .int p0), (2, .ref pl), (3, .ref vs), (4, .int p3)]) hx hb dX6_turnOpen_87 hl (k := 0) rfl v_69660_e.symm (by decide) rfl (fun ls hl => ?_)
            refine lv_goto (tgt := 6) hx hb dX6_turnOpen_90 (by decide) ?_
            exact ih_69649 v_69660 x_69647 f_69648 H _ ls (tr_w h_v_69660 (by decide) (by decide)) (tr_wa h_f_69648 (by decide) (by decide)) (by (first | (clear h_v_69653 h_v_69656 c_69657_i h_69658; omega) | omega)) (hP.sub [0, 1, 2, 3, 4, 5, 6, 7, 8] rfl) (hD.sub [0, 1, 2, 3, 4, 5, 6, 7, 8] (by decide) rfl) hS (lv_sub hl [0, 1, 2, 3, 4, 5, 6] rfl)
          · skip
            have c_69657_i : (v_69656 : Int32).toInt = ((-1) : Int32).toInt := congrArg Int32.toInt c_69657
            have h_69659 : (-1) ≤ (v_69656 : Int32).toInt ∧ (v_69656 : Int32).toInt ≤ (-1) := nr_eq_l h_v_69656 (⟨by decide, by decide⟩ : (-1) ≤ ((-1) : Int32).toInt ∧ ((-1) : Int32).toInt ≤ (-1)) c_69657_i (by decide) (by decide)
            refine lv_iload hx hb dX6_turnOpen_46 (lv_at hl 6 rfl) ?_
            refine lv_iload hx hb dX6_turnOpen_48 (lv_at hl 0 rfl) ?_
            refine lv_ishr hx hb dX6_turnOpen_50 ?_
            refine lv_topi (fun v_69661 v_69661_e => ?_)
            refine lv_iconst (v := 1) hx hb dX6_turnOpen_51 (by decide) ?_
            refine lv_iand hx hb dX6_turnOpen_52 ?_
            refine lv_topi (fun v_69662 v_69662_e => ?_)
            refine lv_if_eq (tgt := 87) hx hb dX6_turnOpen_53 (by decide) (fun c_69663 => ?_) (fun c_69663 => ?_)
            · skip
              have h_69664 : 0 ≤ (v_69662 : Int32).toInt ∧ (v_69662 : Int32).toInt ≤ 0 := by rw [c_69663]; exact ⟨by decide, by decide⟩
              obtain ⟨v_69665, v_69665_e⟩ : ∃ y : Int32, y = x_69646 + Int32.ofInt 1 := ⟨_, rfl⟩
              have h_v_69665 : 1 ≤ (v_69665 : Int32).toInt ∧ (v_69665 : Int32).toInt ≤ 12 := by rw [v_69665_e]; exact tr_add h_69651 (⟨by decide, by decide⟩ : 1 ≤ (Int32.ofInt 1 : Int32).toInt ∧ (Int32.ofInt 1 : Int32).toInt ≤ 1) (by decide) (by decide) (by decide) (by decide)
              have q_v_69665 : v_69665.toInt = x_69646.toInt + 1 := by rw [v_69665_e]; exact tr_addE h_69651 (⟨by decide, by decide⟩ : 1 ≤ (Int32.ofInt 1 : Int32).toInt ∧ (Int32.ofInt 1 : Int32).toInt ≤ 1) (by decide) (by decide)
              refine lv_iinc (v := v_69665) (lv' := [(6, .int v_69665), (5, .int x_69647), (0, .ref sv), (1, .int p0), (2, .ref pl), (3, .ref vs), (4, .int p3)]) hx hb dX6_turnOpen_87 hl (k := 0) rfl v_69665_e.symm (by decide) rfl (fun ls hl => ?_)
              refine lv_goto (tgt := 6) hx hb dX6_turnOpen_90 (by decide) ?_
              exact ih_69649 v_69665 x_69647 f_69648 H _ ls (tr_w h_v_69665 (by decide) (by decide)) (tr_wa h_f_69648 (by decide) (by decide)) (by (first | (clear h_v_69653 h_v_69656 c_69657_i h_69659 h_69664; omega) | omega)) (hP.sub [0, 1, 2, 3, 4, 5, 6, 7, 8] rfl) (hD.sub [0, 1, 2, 3, 4, 5, 6, 7, 8] (by decide) rfl) hS (lv_sub hl [0, 1, 2, 3, 4, 5, 6] rfl)
            · skip
              refine lv_aload_n hx hb dX6_turnOpen_56 rfl (lv_at hl 2 rfl) ?_
              refine lv_iload hx hb dX6_turnOpen_57 (lv_at hl 0 rfl) ?_
              refine lv_aload_n hx hb dX6_turnOpen_59 rfl (lv_at hl 4 rfl) ?_
              refine lv_iload hx hb dX6_turnOpen_60 (lv_at hl 0 rfl) ?_
              refine va_iald hx hb hK hP 8 0 rfl rfl (tr_in h_69651 (by decide) (by decide)) dX6_turnOpen_62 ?_
              refine lv_topi (fun v_69666 v_69666_e => ?_)
              have h_v_69666 : 0 ≤ (v_69666 : Int32).toInt ∧ (v_69666 : Int32).toInt ≤ 2 := by rw [v_69666_e]; exact h_f_69648 _
              refine lv_aload_n hx hb dX6_turnOpen_63 rfl (lv_at hl 5 rfl) ?_
              have hPc := hP.sub (ws' := [(wO6 sv n co sv_keep sv_scaled), (wO2 n n_nodes n_kind n_pay n_name n_ways n_held n_targets n_weights), (wI g n_kind 0 12 n_fkind), (wI g n_ways 0 12 n_fways), (wI g n_targets 0 36 n_ftargets), (wO10 vs vs_part vsw), (wJ g vs_part 1 12 vsp)]) [0, 1, 2, 3, 5, 6, 7] rfl
              refine vp_callSi (va_Run.run (va_runV (As := [.int x_69646, .int v_69666, .ref vs]) (rest := []) ⟨hx, hb, hml, hown, hts⟩ (c_X6_betterWay l D g sv x_69646 v_69666 vs n co sv_keep sv_scaled n_nodes n_kind n_pay n_name n_ways n_held n_targets n_weights n_fkind n_fways n_ftargets vs_part vsw vsp (tr_w h_69651 (by decide) (by decide)) (tr_w h_v_69666 (by decide) (by decide)) (tr_w h_69652 (by decide) (by decide)) (tr_wa h_n_fkind (by decide) (by decide)) (tr_wa h_n_fways (by decide) (by decide)) (tr_wa h_n_ftargets (by decide) (by decide))) (cwV 3 hts (tz_gV qw_535 qw_536 qw_537 qw_538 qw_539) rfl rfl rfl (by decide +kernel) ⟨Nat.le_of_ble_eq_true rfl, Nat.le_of_ble_eq_true rfl⟩) ⟨tz_blS, va_recv hK hPc (ci := 6) (q0 := 0) rfl rfl, tz_preS hPc hK⟩ rfl rfl hl.1 rfl (lv_room (Nat.le_of_ble_eq_true rfl)) dX6_turnOpen_64 ⟨Nat.le_of_ble_eq_true rfl, Nat.le_of_ble_eq_true rfl⟩)) (fun r_69667 hw => ?_)
              have hw_69668 : 0 ≤ (r_69667 : Int32).toInt ∧ (r_69667 : Int32).toInt ≤ 2 := hw
              refine lv_istore (lv' := [(7, .int r_69667), (6, .int x_69646), (5, .int x_69647), (0, .ref sv), (1, .int p0), (2, .ref pl), (3, .ref vs), (4, .int p3)]) hx hb dX6_turnOpen_67 hl (by decide) rfl (fun ls hl => ?_)
              refine lv_iload hx hb dX6_turnOpen_69 (lv_at hl 0 rfl) ?_
              refine lv_aload_n hx hb dX6_turnOpen_71 rfl (lv_at hl 5 rfl) ?_
              refine lv_iload hx hb dX6_turnOpen_72 (lv_at hl 1 rfl) ?_
              refine va_iald hx hb hK hP 8 0 rfl rfl (tr_in h_69651 (by decide) (by decide)) dX6_turnOpen_74 ?_
              refine tz_i (y := v_69666) v_69666_e.symm ?_
              refine lv_icmp_eq (tgt := 87) hx hb dX6_turnOpen_75 (by decide) (fun c_69669 => ?_) (fun c_69669 => ?_)
              · skip
                obtain ⟨v_69670, v_69670_e⟩ : ∃ y : Int32, y = x_69646 + Int32.ofInt 1 := ⟨_, rfl⟩
                have h_v_69670 : 1 ≤ (v_69670 : Int32).toInt ∧ (v_69670 : Int32).toInt ≤ 12 := by rw [v_69670_e]; exact tr_add h_69651 (⟨by decide, by decide⟩ : 1 ≤ (Int32.ofInt 1 : Int32).toInt ∧ (Int32.ofInt 1 : Int32).toInt ≤ 1) (by decide) (by decide) (by decide) (by decide)
                have q_v_69670 : v_69670.toInt = x_69646.toInt + 1 := by rw [v_69670_e]; exact tr_addE h_69651 (⟨by decide, by decide⟩ : 1 ≤ (Int32.ofInt 1 : Int32).toInt ∧ (Int32.ofInt 1 : Int32).toInt ≤ 1) (by decide) (by decide)
                refine lv_iinc (v := v_69670) (lv' := [(6, .int v_69670), (7, .int r_69667), (5, .int x_69647), (0, .ref sv), (1, .int p0), (2, .ref pl), (3, .ref vs), (4, .int p3)]) hx hb dX6_turnOpen_87 hl (k := 1) rfl v_69670_e.symm (by decide) rfl (fun ls hl => ?_)
                refine lv_goto (tgt := 6) hx hb dX6_turnOpen_90 (by decide) ?_
                exact ih_69649 v_69670 x_69647 f_69648 H _ ls (tr_w h_v_69670 (by decide) (by decide)) (tr_wa h_f_69648 (by decide) (by decide)) (by (first | (clear h_v_69653 h_v_69656 c_69657_i h_69659 h_v_69666 hw_69668; omega) | omega)) (hP.sub [0, 1, 2, 3, 4, 5, 6, 7, 8] rfl) (hD.sub [0, 1, 2, 3, 4, 5, 6, 7, 8] (by decide) rfl) hS (lv_sub hl [0, 2, 3, 4, 5, 6, 7] rfl)
              · skip
                refine lv_aload_n hx hb dX6_turnOpen_78 rfl (lv_at hl 5 rfl) ?_
                refine lv_iload hx hb dX6_turnOpen_79 (lv_at hl 1 rfl) ?_
                refine lv_iload hx hb dX6_turnOpen_81 (lv_at hl 0 rfl) ?_
                refine va_iast hx hb hK hP hD hS 8 0 rfl rfl (tr_in h_69651 (by decide) (by decide)) dX6_turnOpen_83 (fun H locs hP hD hS => ?_)
                obtain ⟨f_69671, h_f_69671, hP, hD⟩ : ∃ FX : Nat → Int32, (∀ j : Nat, 0 ≤ (FX j).toInt ∧ (FX j).toInt ≤ 2) ∧ va_P D vwCl [(wO6 sv n co sv_keep sv_scaled), (wO2 n n_nodes n_kind n_pay n_name n_ways n_held n_targets n_weights), (wI g n_kind 0 12 n_fkind), (wI g n_ways 0 12 n_fways), (wI g n_held 0 12 n_fheld), (wI g n_targets 0 36 n_ftargets), (wO10 vs vs_part vsw), (wJ g vs_part 1 12 vsp), (wI g pl 0 12 FX)] H ∧ va_D A [(wO6 sv n co sv_keep sv_scaled), (wO2 n n_nodes n_kind n_pay n_name n_ways n_held n_targets n_weights), (wI g n_kind 0 12 n_fkind), (wI g n_ways 0 12 n_fways), (wI g n_held 0 12 n_fheld), (wI g n_targets 0 36 n_ftargets), (wO10 vs vs_part vsw), (wJ g vs_part 1 12 vsp), (wI g pl 0 12 FX)] := ⟨_, tr_upd h_f_69648 (tr_w hw_69668 (by decide) (by decide)), hP, hD⟩
                have hP : va_P D vwCl [(wO6 sv n co sv_keep sv_scaled), (wO2 n n_nodes n_kind n_pay n_name n_ways n_held n_targets n_weights), (wI g n_kind 0 12 n_fkind), (wI g n_ways 0 12 n_fways), (wI g n_held 0 12 n_fheld), (wI g n_targets 0 36 n_ftargets), (wO10 vs vs_part vsw), (wJ g vs_part 1 12 vsp), (wI g pl 0 12 f_69671)] H := hP
                have hD : va_D A [(wO6 sv n co sv_keep sv_scaled), (wO2 n n_nodes n_kind n_pay n_name n_ways n_held n_targets n_weights), (wI g n_kind 0 12 n_fkind), (wI g n_ways 0 12 n_fways), (wI g n_held 0 12 n_fheld), (wI g n_targets 0 36 n_ftargets), (wO10 vs vs_part vsw), (wJ g vs_part 1 12 vsp), (wI g pl 0 12 f_69671)] := hD
                obtain ⟨v_69672, v_69672_e⟩ : ∃ y : Int32, y = x_69647 + Int32.ofInt 1 := ⟨_, rfl⟩
                refine lv_iinc (v := v_69672) (lv' := [(5, .int v_69672), (7, .int r_69667), (6, .int x_69646), (0, .ref sv), (1, .int p0), (2, .ref pl), (3, .ref vs), (4, .int p3)]) hx hb dX6_turnOpen_84 hl (k := 2) rfl v_69672_e.symm (by decide) rfl (fun ls hl => ?_)
                obtain ⟨v_69673, v_69673_e⟩ : ∃ y : Int32, y = x_69646 + Int32.ofInt 1 := ⟨_, rfl⟩
                have h_v_69673 : 1 ≤ (v_69673 : Int32).toInt ∧ (v_69673 : Int32).toInt ≤ 12 := by rw [v_69673_e]; exact tr_add h_69651 (⟨by decide, by decide⟩ : 1 ≤ (Int32.ofInt 1 : Int32).toInt ∧ (Int32.ofInt 1 : Int32).toInt ≤ 1) (by decide) (by decide) (by decide) (by decide)
                have q_v_69673 : v_69673.toInt = x_69646.toInt + 1 := by rw [v_69673_e]; exact tr_addE h_69651 (⟨by decide, by decide⟩ : 1 ≤ (Int32.ofInt 1 : Int32).toInt ∧ (Int32.ofInt 1 : Int32).toInt ≤ 1) (by decide) (by decide)
                refine lv_iinc (v := v_69673) (lv' := [(6, .int v_69673), (5, .int v_69672), (7, .int r_69667), (0, .ref sv), (1, .int p0), (2, .ref pl), (3, .ref vs), (4, .int p3)]) hx hb dX6_turnOpen_87 hl (k := 2) rfl v_69673_e.symm (by decide) rfl (fun ls hl => ?_)
                refine lv_goto (tgt := 6) hx hb dX6_turnOpen_90 (by decide) ?_
                exact ih_69649 v_69673 v_69672 f_69671 H _ ls (tr_w h_v_69673 (by decide) (by decide)) (tr_wa h_f_69671 (by decide) (by decide)) (by (first | (clear h_f_69648 h_v_69653 h_v_69656 c_69657_i h_69659 h_v_69666 hw_69668; omega) | omega)) (hP.sub [0, 1, 2, 3, 4, 5, 6, 7, 8] rfl) (hD.sub [0, 1, 2, 3, 4, 5, 6, 7, 8] (by decide) rfl) hS (lv_sub hl [0, 1, 3, 4, 5, 6, 7] rfl)
  exact lp_69649 13 0 0 plf s.heap _ ls (⟨by decide, by decide⟩ : 0 ≤ (0 : Int32).toInt ∧ (0 : Int32).toInt ≤ 12) (tr_wa h_plf (by decide) (by decide)) (by decide) (hP.sub [0, 1, 2, 3, 4, 5, 6, 7, 8] rfl) (hD.sub [0, 1, 2, 3, 4, 5, 6, 7, 8] (by decide) rfl) hS (lv_sub hl [0, 1, 2, 3, 4, 5, 6] rfl)
set_option maxHeartbeats 4000000 in
set_option maxRecDepth 100000 in
theorem c_X6_turn (l : Launch) (D : va_G) (g : Nat → ClassId) (sz : Nat) (sv : Nat) (p0 : Int32) (pl : Nat) (vs : Nat) (n : Nat) (co : Nat) (sv_keep : Nat) (sv_scaled : Nat) (n_nodes : Int32) (n_kind : Nat) (n_pay : Nat) (n_name : Nat) (n_ways : Nat) (n_held : Nat) (n_targets : Nat) (n_weights : Nat) (n_fkind : Nat → Int32) (n_fways : Nat → Int32) (n_fheld : Nat → Int32) (n_ftargets : Nat → Int32) (vs_part : Nat) (vsw : Int64) (vsp : Nat → Int64) (plf : Nat → Int32) (h_n_nodes : 0 ≤ (n_nodes : Int32).toInt ∧ (n_nodes : Int32).toInt ≤ 12) (h_n_fkind : ∀ j : Nat, 0 ≤ (n_fkind j).toInt ∧ (n_fkind j).toInt ≤ 3) (h_n_fways : ∀ j : Nat, 0 ≤ (n_fways j).toInt ∧ (n_fways j).toInt ≤ 3) (h_n_fheld : ∀ j : Nat, (-1) ≤ (n_fheld j).toInt ∧ (n_fheld j).toInt ≤ 2) (h_n_ftargets : ∀ j : Nat, 0 ≤ (n_ftargets j).toInt ∧ (n_ftargets j).toInt ≤ 11) (h_plf : ∀ j : Nat, 0 ≤ (plf j).toInt ∧ (plf j).toInt ≤ 2) : Met l yX6_turn (.code yX6_turn cX6_turn 4 (some .int) :: wsL_law) ({ frames := 3, cells := 0, slots := 0, locals := 77 }) (va_Pc [.ref sv, .int p0, .ref pl, .ref vs] (fun U => U.heap.size = sz ∧ va_P D vwCl [(wO6 sv n co sv_keep sv_scaled), (wO2 n n_nodes n_kind n_pay n_name n_ways n_held n_targets n_weights), (wI g n_kind 0 12 n_fkind), (wI g n_ways 0 12 n_fways), (wI g n_held 0 12 n_fheld), (wI g n_targets 0 36 n_ftargets), (wO10 vs vs_part vsw), (wJ g vs_part 1 12 vsp), (wI g pl 0 12 plf)] U.heap ∧ va_K D vwCl (TY g) U ∧ va_D (fun _ => True) [(wO6 sv n co sv_keep sv_scaled), (wO2 n n_nodes n_kind n_pay n_name n_ways n_held n_targets n_weights), (wI g n_kind 0 12 n_fkind), (wI g n_ways 0 12 n_fways), (wI g n_held 0 12 n_fheld), (wI g n_targets 0 36 n_ftargets), (wO10 vs vs_part vsw), (wJ g vs_part 1 12 vsp), (wI g pl 0 12 plf)])) (va_Qi (fun r (_ : Unit) => True) (fun _ t => ∃ opl : Nat → Int32, (∀ j : Nat, 0 ≤ (opl j).toInt ∧ (opl j).toInt ≤ 2) ∧ va_P D vwCl [(wO6 sv n co sv_keep sv_scaled), (wO2 n n_nodes n_kind n_pay n_name n_ways n_held n_targets n_weights), (wI g n_kind 0 12 n_fkind), (wI g n_ways 0 12 n_fways), (wI g n_held 0 12 n_fheld), (wI g n_targets 0 36 n_ftargets), (wO10 vs vs_part vsw), (wJ g vs_part 1 12 vsp), (wI g pl 0 12 opl)] t.heap ∧ va_D (va_A [(wO6 sv n co sv_keep sv_scaled), (wO2 n n_nodes n_kind n_pay n_name n_ways n_held n_targets n_weights), (wI g n_kind 0 12 n_fkind), (wI g n_ways 0 12 n_fways), (wI g n_held 0 12 n_fheld), (wI g n_targets 0 36 n_ftargets), (wO10 vs vs_part vsw), (wJ g vs_part 1 12 vsp), (wI g pl 0 12 plf)] sz) [(wO6 sv n co sv_keep sv_scaled), (wO2 n n_nodes n_kind n_pay n_name n_ways n_held n_targets n_weights), (wI g n_kind 0 12 n_fkind), (wI g n_ways 0 12 n_fways), (wI g n_held 0 12 n_fheld), (wI g n_targets 0 36 n_ftargets), (wO10 vs vs_part vsw), (wJ g vs_part 1 12 vsp), (wI g pl 0 12 opl)]) (va_A [(wO6 sv n co sv_keep sv_scaled), (wO2 n n_nodes n_kind n_pay n_name n_ways n_held n_targets n_weights), (wI g n_kind 0 12 n_fkind), (wI g n_ways 0 12 n_fways), (wI g n_held 0 12 n_fheld), (wI g n_targets 0 36 n_ftargets), (wO10 vs vs_part vsw), (wJ g vs_part 1 12 vsp), (wI g pl 0 12 plf)] sz)) 0 0 (va_A [(wO6 sv n co sv_keep sv_scaled), (wO2 n n_nodes n_kind n_pay n_name n_ways n_held n_targets n_weights), (wI g n_kind 0 12 n_fkind), (wI g n_ways 0 12 n_fways), (wI g n_held 0 12 n_fheld), (wI g n_targets 0 36 n_ftargets), (wO10 vs vs_part vsw), (wJ g vs_part 1 12 vsp), (wI g pl 0 12 plf)] sz) := by
  refine Met.ofW (cc := cX6_turn) (maxL := 4) (ret := (some .int)) (by decide) rfl ?_
  intro p e s m args below meth c s₁ B hml hv
  obtain ⟨ha, hsz, hP, hK, hD0⟩ := hv
  have hx := B.exec
  have hb := B.bytes
  have hr := B.returns
  have hts0 := atoms_spec (ws := (.code yX6_turn cX6_turn 4 (some .int) :: wsL_law)) B.pre
  have hts : ∀ w ∈ wsL_law, w.before args s = true := fun w h => hts0 w (List.mem_cons_of_mem _ h)
  have hown : s.vm.findClass RX6 = some m.cls := findClass_of_methodNamed B.named
  have hlocks := B.notSynchronized
  subst hsz
  have hD := hD0.self (sz := s.heap.size)
  generalize hAe : va_A [(wO6 sv n co sv_keep sv_scaled), (wO2 n n_nodes n_kind n_pay n_name n_ways n_held n_targets n_weights), (wI g n_kind 0 12 n_fkind), (wI g n_ways 0 12 n_fways), (wI g n_held 0 12 n_fheld), (wI g n_targets 0 36 n_ftargets), (wO10 vs vs_part vsw), (wJ g vs_part 1 12 vsp), (wI g pl 0 12 plf)] s.heap.size = A at hD ⊢
  have hA : ∀ q : Nat, s.heap.size ≤ q → A q := fun q h => by rw [← hAe]; exact Or.inr h
  have hS : va_S A s.heap s.heap [] := va_S.rf
  have hP : va_P D vwCl [(wO6 sv n co sv_keep sv_scaled), (wO2 n n_nodes n_kind n_pay n_name n_ways n_held n_targets n_weights), (wI g n_kind 0 12 n_fkind), (wI g n_ways 0 12 n_fways), (wI g n_held 0 12 n_fheld), (wI g n_targets 0 36 n_ftargets), (wO10 vs vs_part vsw), (wJ g vs_part 1 12 vsp), (wI g pl 0 12 plf)] s.heap := hP
  refine W.eq (g2 := entryFrame m ([.ref sv, .int p0, .ref pl, .ref vs] : List Value).toArray 4) (by rw [ha]) ?_
  have hl := lv_entry ([.ref sv, .int p0, .ref pl, .ref vs]) (n := 4) (Nat.le_of_ble_eq_true rfl)
  rw [lg_entry_eq]
  generalize (lg_sl ([.ref sv, .int p0, .ref pl, .ref vs]) ++ List.replicate (4 - (lg_sl ([.ref sv, .int p0, .ref pl, .ref vs])).length) Slot.unset).toArray = ls at hl ⊢
  have hl : lv_has ls 4 [(0, .ref sv), (1, .int p0), (2, .ref pl), (3, .ref vs)] := hl
  refine lv_aload_n hx hb dX6_turn_0 rfl (lv_at hl 0 rfl) ?_
  refine lv_iload_n hx hb dX6_turn_1 rfl (lv_at hl 1 rfl) ?_
  refine lv_aload_n hx hb dX6_turn_2 rfl (lv_at hl 2 rfl) ?_
  refine lv_aload_n hx hb dX6_turn_3 rfl (lv_at hl 3 rfl) ?_
  refine lv_iconst (v := (-1)) hx hb dX6_turn_4 (by decide) ?_
  have hPc := hP.sub (ws' := [(wO6 sv n co sv_keep sv_scaled), (wO2 n n_nodes n_kind n_pay n_name n_ways n_held n_targets n_weights), (wI g n_kind 0 12 n_fkind), (wI g n_ways 0 12 n_fways), (wI g n_held 0 12 n_fheld), (wI g n_targets 0 36 n_ftargets), (wO10 vs vs_part vsw), (wJ g vs_part 1 12 vsp), (wI g pl 0 12 plf)]) [0, 1, 2, 3, 4, 5, 6, 7, 8] rfl
  have hDc := hD.sub (ws' := [(wO6 sv n co sv_keep sv_scaled), (wO2 n n_nodes n_kind n_pay n_name n_ways n_held n_targets n_weights), (wI g n_kind 0 12 n_fkind), (wI g n_ways 0 12 n_fways), (wI g n_held 0 12 n_fheld), (wI g n_targets 0 36 n_ftargets), (wO10 vs vs_part vsw), (wJ g vs_part 1 12 vsp), (wI g pl 0 12 plf)]) [0, 1, 2, 3, 4, 5, 6, 7, 8] (by decide) rfl
  have hFc := va_free (wc := [(wO6 sv n co sv_keep sv_scaled), (wO2 n n_nodes n_kind n_pay n_name n_ways n_held n_targets n_weights), (wI g n_kind 0 12 n_fkind), (wI g n_ways 0 12 n_fways), (wI g n_held 0 12 n_fheld), (wI g n_targets 0 36 n_ftargets), (wO10 vs vs_part vsw), (wJ g vs_part 1 12 vsp), (wI g pl 0 12 plf)]) hD hS hA [0, 1, 2, 3, 4, 5, 6, 7, 8] rfl
  refine va_calli (va_runV (As := [.int p0, .ref pl, .ref vs, .int (-1)]) (rest := []) ⟨hx, hb, hml, hown, hts⟩ (c_X6_turnOpen l D g s.heap.size sv p0 pl vs (-1) n co sv_keep sv_scaled n_nodes n_kind n_pay n_name n_ways n_held n_targets n_weights n_fkind n_fways n_fheld n_ftargets vs_part vsw vsp plf (tr_w h_n_nodes (by decide) (by decide)) (tr_wa h_n_fkind (by decide) (by decide)) (tr_wa h_n_fways (by decide) (by decide)) (tr_wa h_n_fheld (by decide) (by decide)) (tr_wa h_n_ftargets (by decide) (by decide)) (tr_wa h_plf (by decide) (by decide))) (cwV 4 hts (tz_gV qw_540 qw_541 qw_542 qw_538 qw_543) rfl rfl rfl (by decide +kernel) ⟨Nat.le_of_ble_eq_true rfl, Nat.le_of_ble_eq_true rfl⟩) ⟨tz_blQ, va_recv hK hPc (ci := 6) (q0 := 0) rfl rfl, tz_preQ hPc hK hDc⟩ rfl rfl hl.1 rfl (lv_room (Nat.le_of_ble_eq_true rfl)) dX6_turn_5 ⟨Nat.le_of_ble_eq_true rfl, Nat.le_of_ble_eq_true rfl⟩) hS (fun q _ h => hFc q h) hFc (fun r_69674 u t H1 locs ht hvm hw hB hz1 hk1 hS => ?_)
  obtain ⟨opl_69675, hf_69676, hP1, hD1⟩ := hB
  rw [ht] at hP1
  obtain ⟨hP, hD⟩ := va_join (wr := []) (w1 := [(wO6 sv n co sv_keep sv_scaled), (wO2 n n_nodes n_kind n_pay n_name n_ways n_held n_targets n_weights), (wI g n_kind 0 12 n_fkind), (wI g n_ways 0 12 n_fways), (wI g n_held 0 12 n_fheld), (wI g n_targets 0 36 n_ftargets), (wO10 vs vs_part vsw), (wJ g vs_part 1 12 vsp), (wI g pl 0 12 opl_69675)]) hP hD [0, 1, 2, 3, 4, 5, 6, 7, 8] [] rfl rfl (by decide) (by decide) hk1 hFc hP1 hD1
  generalize H1 = H at hP hS ⊢
  have hP : va_P D vwCl [(wO6 sv n co sv_keep sv_scaled), (wO2 n n_nodes n_kind n_pay n_name n_ways n_held n_targets n_weights), (wI g n_kind 0 12 n_fkind), (wI g n_ways 0 12 n_fways), (wI g n_held 0 12 n_fheld), (wI g n_targets 0 36 n_ftargets), (wO10 vs vs_part vsw), (wJ g vs_part 1 12 vsp), (wI g pl 0 12 opl_69675)] H := hP
  have hD : va_D A [(wO6 sv n co sv_keep sv_scaled), (wO2 n n_nodes n_kind n_pay n_name n_ways n_held n_targets n_weights), (wI g n_kind 0 12 n_fkind), (wI g n_ways 0 12 n_fways), (wI g n_held 0 12 n_fheld), (wI g n_targets 0 36 n_ftargets), (wO10 vs vs_part vsw), (wJ g vs_part 1 12 vsp), (wI g pl 0 12 opl_69675)] := hD
  have hP9 := hP.sub (ws' := [(wO6 sv n co sv_keep sv_scaled), (wO2 n n_nodes n_kind n_pay n_name n_ways n_held n_targets n_weights), (wI g n_kind 0 12 n_fkind), (wI g n_ways 0 12 n_fways), (wI g n_held 0 12 n_fheld), (wI g n_targets 0 36 n_ftargets), (wO10 vs vs_part vsw), (wJ g vs_part 1 12 vsp), (wI g pl 0 12 opl_69675)]) [0, 1, 2, 3, 4, 5, 6, 7, 8] rfl
  have hD9 := hD.sub (ws' := [(wO6 sv n co sv_keep sv_scaled), (wO2 n n_nodes n_kind n_pay n_name n_ways n_held n_targets n_weights), (wI g n_kind 0 12 n_fkind), (wI g n_ways 0 12 n_fways), (wI g n_held 0 12 n_fheld), (wI g n_targets 0 36 n_ftargets), (wO10 vs vs_part vsw), (wJ g vs_part 1 12 vsp), (wI g pl 0 12 opl_69675)]) [0, 1, 2, 3, 4, 5, 6, 7, 8] (by decide) rfl
  exact W.iret (v := r_69674) hx hb hr (fun t ht hW => ⟨⟨r_69674, (), rfl, trivial, opl_69675, (tr_wa hf_69676 (by decide) (by decide)), by rw [ht]; exact hP9, hD9⟩, hS.F ht⟩) hS.2.2 dX6_turn_8
set_option maxHeartbeats 4000000 in
set_option maxRecDepth 100000 in
theorem c_X6_unavoidable (l : Launch) (D : va_G) (g : Nat → ClassId) (sv : Nat) (pl : Nat) (n : Nat) (co : Nat) (sv_keep : Nat) (sv_scaled : Nat) (eq : Nat) (co_place : Nat) (n_nodes : Int32) (n_kind : Nat) (n_pay : Nat) (n_name : Nat) (n_ways : Nat) (n_held : Nat) (n_targets : Nat) (n_weights : Nat) (n_fkind : Nat → Int32) (n_fpay : Nat → Int32) (n_fways : Nat → Int32) (n_fheld : Nat → Int32) (n_ftargets : Nat → Int32) (n_fweights : Nat → Int32) (plf : Nat → Int32) (h_n_nodes : 0 ≤ (n_nodes : Int32).toInt ∧ (n_nodes : Int32).toInt ≤ 12) (h_n_fkind : ∀ j : Nat, 0 ≤ (n_fkind j).toInt ∧ (n_fkind j).toInt ≤ 3) (h_n_fways : ∀ j : Nat, 0 ≤ (n_fways j).toInt ∧ (n_fways j).toInt ≤ 3) (h_n_fheld : ∀ j : Nat, (-1) ≤ (n_fheld j).toInt ∧ (n_fheld j).toInt ≤ 2) (h_n_ftargets : ∀ j : Nat, 0 ≤ (n_ftargets j).toInt ∧ (n_ftargets j).toInt ≤ 11) (h_plf : ∀ j : Nat, 0 ≤ (plf j).toInt ∧ (plf j).toInt ≤ 2) : Met l yX6_unavoidable (.code yX6_unavoidable cX6_unavoidable 8 (some .int) :: wsL_law) ({ frames := 2, cells := 0, slots := 0, locals := 47 }) (va_Pc [.ref sv, .ref pl] (fun U => va_P D vwCl [(wO6 sv n co sv_keep sv_scaled), (wO0 co n eq co_place), (wO2 n n_nodes n_kind n_pay n_name n_ways n_held n_targets n_weights), (wI g n_kind 0 12 n_fkind), (wI g n_pay 0 12 n_fpay), (wI g n_ways 0 12 n_fways), (wI g n_held 0 12 n_fheld), (wI g n_targets 0 36 n_ftargets), (wI g n_weights 0 36 n_fweights), (wI g pl 0 12 plf)] U.heap ∧ va_K D vwCl (TY g) U)) (vp_Si (fun r => True)) 0 0 (fun _ => False) := by
  refine Met.ofW (cc := cX6_unavoidable) (maxL := 8) (ret := (some .int)) (by decide) rfl ?_
  intro p e s m args below meth c s₁ B hml hv
  obtain ⟨ha, hP, hK⟩ := hv
  have hx := B.exec
  have hb := B.bytes
  have hr := B.returns
  have hts0 := atoms_spec (ws := (.code yX6_unavoidable cX6_unavoidable 8 (some .int) :: wsL_law)) B.pre
  have hts : ∀ w ∈ wsL_law, w.before args s = true := fun w h => hts0 w (List.mem_cons_of_mem _ h)
  have hown : s.vm.findClass RX6 = some m.cls := findClass_of_methodNamed B.named
  have hlocks := B.notSynchronized
  have hP : va_P D vwCl [(wO6 sv n co sv_keep sv_scaled), (wO0 co n eq co_place), (wO2 n n_nodes n_kind n_pay n_name n_ways n_held n_targets n_weights), (wI g n_kind 0 12 n_fkind), (wI g n_pay 0 12 n_fpay), (wI g n_ways 0 12 n_fways), (wI g n_held 0 12 n_fheld), (wI g n_targets 0 36 n_ftargets), (wI g n_weights 0 36 n_fweights), (wI g pl 0 12 plf)] s.heap := hP
  refine W.eq (g2 := entryFrame m ([.ref sv, .ref pl] : List Value).toArray 8) (by rw [ha]) ?_
  have hl := lv_entry ([.ref sv, .ref pl]) (n := 8) (Nat.le_of_ble_eq_true rfl)
  rw [lg_entry_eq]
  generalize (lg_sl ([.ref sv, .ref pl]) ++ List.replicate (8 - (lg_sl ([.ref sv, .ref pl])).length) Slot.unset).toArray = ls at hl ⊢
  have hl : lv_has ls 8 [(0, .ref sv), (1, .ref pl)] := hl
  refine lv_aload_n hx hb dX6_unavoidable_0 rfl (lv_at hl 0 rfl) ?_
  refine va_get (D := D) (ci := 6) (v := .ref n) (C := RX6) (T := TX6) (N := 4) hx hb hts inlX6 hown hK hP 0 rfl rfl 0 (by decide) (hts (Cond.fieldLink RX6 19 "ChanceRings$Solver" "net" "LChanceRings$Net;") qw_528) (fun _ h9 => h9) rfl dX6_unavoidable_1 ?_
  have hPc := hP.sub (ws' := [(wO2 n n_nodes n_kind n_pay n_name n_ways n_held n_targets n_weights), (wI g n_kind 0 12 n_fkind), (wI g n_pay 0 12 n_fpay)]) [2, 3, 4] rfl
  refine vp_callSi (va_Run.run (va_runV (As := []) (rest := []) ⟨hx, hb, hml, hown, hts⟩ (c_X2_payingEnds l D g n n_nodes n_kind n_pay n_name n_ways n_held n_targets n_weights n_fkind n_fpay (tr_w h_n_nodes (by decide) (by decide)) (tr_wa h_n_fkind (by decide) (by decide))) (cwV 0 hts (tz_gV qw_544 qw_485 qw_486 qw_322 qw_487) rfl rfl rfl (by decide +kernel) ⟨Nat.le_of_ble_eq_true rfl, Nat.le_of_ble_eq_true rfl⟩) ⟨tz_blS, va_recv hK hPc (ci := 2) (q0 := 0) rfl rfl, tz_preS hPc hK⟩ rfl rfl hl.1 rfl (lv_room (Nat.le_of_ble_eq_true rfl)) dX6_unavoidable_4 ⟨Nat.le_of_ble_eq_true rfl, Nat.le_of_ble_eq_true rfl⟩)) (fun r_69677 hw => ?_)
  refine lv_istore_n (lv' := [(2, .int r_69677), (0, .ref sv), (1, .ref pl)]) hx hb dX6_unavoidable_7 rfl hl (by decide) rfl (fun ls hl => ?_)
  refine lv_iconst (v := (-1)) hx hb dX6_unavoidable_8 (by decide) ?_
  refine lv_istore_n (lv' := [(3, .int (-1)), (2, .int r_69677), (0, .ref sv), (1, .ref pl)]) hx hb dX6_unavoidable_9 rfl hl (by decide) rfl (fun ls hl => ?_)
  refine lv_iconst (v := 0) hx hb dX6_unavoidable_10 (by decide) ?_
  refine lv_istore (lv' := [(4, .int 0), (3, .int (-1)), (2, .int r_69677), (0, .ref sv), (1, .ref pl)]) hx hb dX6_unavoidable_11 hl (by decide) rfl (fun ls hl => ?_)
  have lp_72711 : ∀ (n_72711 : Nat) (x_72708 : Int32) (x_72709 : Int32) (x_72710 : Int32) (ls : Array Slot), (0 ≤ (x_72708 : Int32).toInt ∧ (x_72708 : Int32).toInt ≤ 12) → (12 - x_72708.toInt < (n_72711 : Int)) → lv_has ls 8 [(4, .int x_72708), (3, .int x_72709), (2, .int x_72710), (0, .ref sv), (1, .ref pl)] → W p l e (headSpec (.code yX6_unavoidable cX6_unavoidable 8 (some .int) :: wsL_law) ({ frames := 2, cells := 0, slots := 0, locals := 47 })).room s m args below meth c s.heap [] 0 0 (MQ below (vp_Si (fun r => True)) args s 0 0 (fun _ => False)) (F0 m 13 ls []) := by
    intro n_72711
    induction n_72711 with
    | zero =>
      intro x_72708 x_72709 x_72710 ls h_x_72708 hm_72711 hl
      exfalso; omega
    | succ n_72711 ih_72711 =>
      intro x_72708 x_72709 x_72710 ls h_x_72708 hm_72711 hl
      refine lv_iload hx hb dX6_unavoidable_13 (lv_at hl 0 rfl) ?_
      refine lv_bipush (v := 12) hx hb dX6_unavoidable_15 (by decide) ?_
      refine lv_icmp_ge (tgt := 157) hx hb dX6_unavoidable_17 (by decide) (fun c_72712 => ?_) (fun c_72712 => ?_)
      · skip
        have c_72712_i := Int32.le_iff_toInt_le.mp c_72712
        have h_72713 : 12 ≤ (x_72708 : Int32).toInt ∧ (x_72708 : Int32).toInt ≤ 12 := nr_le_r (⟨by decide, by decide⟩ : 12 ≤ (12 : Int32).toInt ∧ (12 : Int32).toInt ≤ 12) h_x_72708 c_72712_i (by decide) (by decide)
        refine lv_iload_n hx hb dX6_unavoidable_157 rfl (lv_at hl 2 rfl) ?_
        exact W.iret (v := x_72710) hx hb hr (fun t ht hW => ⟨x_72710, rfl, trivial, ht⟩) (fun _ h => nomatch h) dX6_unavoidable_158
      · skip
        have c_72712_i := Int32.lt_iff_toInt_lt.mp (Int32.not_le.mp c_72712)
        have h_72714 : 0 ≤ (x_72708 : Int32).toInt ∧ (x_72708 : Int32).toInt ≤ 11 := nr_lt_l h_x_72708 (⟨by decide, by decide⟩ : 12 ≤ (12 : Int32).toInt ∧ (12 : Int32).toInt ≤ 12) c_72712_i (by decide) (by decide)
        refine lv_iload_n hx hb dX6_unavoidable_20 rfl (lv_at hl 2 rfl) ?_
        refine lv_iload_n hx hb dX6_unavoidable_21 rfl (lv_at hl 1 rfl) ?_
        refine lv_icmp_eq (tgt := 157) hx hb dX6_unavoidable_22 (by decide) (fun c_72715 => ?_) (fun c_72715 => ?_)
        · skip
          refine lv_iload_n hx hb dX6_unavoidable_157 rfl (lv_at hl 2 rfl) ?_
          exact W.iret (v := x_72710) hx hb hr (fun t ht hW => ⟨x_72710, rfl, trivial, ht⟩) (fun _ h => nomatch h) dX6_unavoidable_158
        · skip
          refine lv_iload_n hx hb dX6_unavoidable_25 rfl (lv_at hl 2 rfl) ?_
          refine lv_istore_n (lv' := [(3, .int x_72710), (4, .int x_72708), (2, .int x_72710), (0, .ref sv), (1, .ref pl)]) hx hb dX6_unavoidable_26 rfl hl (by decide) rfl (fun ls hl => ?_)
          refine lv_iconst (v := 0) hx hb dX6_unavoidable_27 (by decide) ?_
          refine lv_istore (lv' := [(5, .int 0), (3, .int x_72710), (4, .int x_72708), (2, .int x_72710), (0, .ref sv), (1, .ref pl)]) hx hb dX6_unavoidable_28 hl (by decide) rfl (fun ls hl => ?_)
          have lp_73050 : ∀ (n_73050 : Nat) (x_73048 : Int32) (x_73049 : Int32) (ls : Array Slot), (0 ≤ (x_73048 : Int32).toInt ∧ (x_73048 : Int32).toInt ≤ 12) → (12 - x_73048.toInt < (n_73050 : Int)) → lv_has ls 8 [(5, .int x_73048), (3, .int x_72710), (4, .int x_72708), (2, .int x_73049), (0, .ref sv), (1, .ref pl)] → W p l e (headSpec (.code yX6_unavoidable cX6_unavoidable 8 (some .int) :: wsL_law) ({ frames := 2, cells := 0, slots := 0, locals := 47 })).room s m args below meth c s.heap [] 0 0 (MQ below (vp_Si (fun r => True)) args s 0 0 (fun _ => False)) (F0 m 30 ls []) := by
            intro n_73050
            induction n_73050 with
            | zero =>
              intro x_73048 x_73049 ls h_x_73048 hm_73050 hl
              exfalso; omega
            | succ n_73050 ih_73050 =>
              intro x_73048 x_73049 ls h_x_73048 hm_73050 hl
              refine lv_iload hx hb dX6_unavoidable_30 (lv_at hl 0 rfl) ?_
              refine lv_aload_n hx hb dX6_unavoidable_32 rfl (lv_at hl 4 rfl) ?_
              refine va_get (D := D) (ci := 6) (v := .ref n) (C := RX6) (T := TX6) (N := 4) hx hb hts inlX6 hown hK hP 0 rfl rfl 0 (by decide) (hts (Cond.fieldLink RX6 19 "ChanceRings$Solver" "net" "LChanceRings$Net;") qw_528) (fun _ h9 => h9) rfl dX6_unavoidable_33 ?_
              refine va_get (D := D) (ci := 2) (v := .int n_nodes) (C := RX2) (T := TX2) (N := 8) hx hb hts inlX2 hown hK hP 2 rfl rfl 0 (by decide) (hts (Cond.fieldLink RX6 32 "ChanceRings$Net" "nodes" "I") qw_529) (fun _ h9 => h9) rfl dX6_unavoidable_36 ?_
              refine lv_icmp_ge (tgt := 151) hx hb dX6_unavoidable_39 (by decide) (fun c_73051 => ?_) (fun c_73051 => ?_)
              · skip
                obtain ⟨v_73054, v_73054_e⟩ : ∃ y : Int32, y = x_72708 + Int32.ofInt 1 := ⟨_, rfl⟩
                have h_v_73054 : 1 ≤ (v_73054 : Int32).toInt ∧ (v_73054 : Int32).toInt ≤ 12 := by rw [v_73054_e]; exact tr_add h_72714 (⟨by decide, by decide⟩ : 1 ≤ (Int32.ofInt 1 : Int32).toInt ∧ (Int32.ofInt 1 : Int32).toInt ≤ 1) (by decide) (by decide) (by decide) (by decide)
                have q_v_73054 : v_73054.toInt = x_72708.toInt + 1 := by rw [v_73054_e]; exact tr_addE h_72714 (⟨by decide, by decide⟩ : 1 ≤ (Int32.ofInt 1 : Int32).toInt ∧ (Int32.ofInt 1 : Int32).toInt ≤ 1) (by decide) (by decide)
                refine lv_iinc (v := v_73054) (lv' := [(4, .int v_73054), (5, .int x_73048), (3, .int x_72710), (2, .int x_73049), (0, .ref sv), (1, .ref pl)]) hx hb dX6_unavoidable_151 hl (k := 2) rfl v_73054_e.symm (by decide) rfl (fun ls hl => ?_)
                refine lv_goto (tgt := 13) hx hb dX6_unavoidable_154 (by decide) ?_
                exact ih_72711 v_73054 x_72710 x_73049 ls (tr_w h_v_73054 (by decide) (by decide)) (by omega) (lv_sub hl [0, 2, 3, 4, 5] rfl)
              · skip
                have c_73051_i := Int32.lt_iff_toInt_lt.mp (Int32.not_le.mp c_73051)
                have h_73052 : 0 ≤ (x_73048 : Int32).toInt ∧ (x_73048 : Int32).toInt ≤ 11 := nr_lt_l h_x_73048 h_n_nodes c_73051_i (by decide) (by decide)
                have h_73053 : 1 ≤ (n_nodes : Int32).toInt ∧ (n_nodes : Int32).toInt ≤ 12 := nr_lt_r h_x_73048 h_n_nodes c_73051_i (by decide) (by decide)
                refine lv_aload_n hx hb dX6_unavoidable_42 rfl (lv_at hl 4 rfl) ?_
                refine va_get (D := D) (ci := 6) (v := .ref n) (C := RX6) (T := TX6) (N := 4) hx hb hts inlX6 hown hK hP 0 rfl rfl 0 (by decide) (hts (Cond.fieldLink RX6 19 "ChanceRings$Solver" "net" "LChanceRings$Net;") qw_528) (fun _ h9 => h9) rfl dX6_unavoidable_43 ?_
                refine va_get (D := D) (ci := 2) (v := .ref n_kind) (C := RX2) (T := TX2) (N := 8) hx hb hts inlX2 hown hK hP 2 rfl rfl 1 (by decide) (hts (Cond.fieldLink RX6 61 "ChanceRings$Net" "kind" "[I") qw_531) (fun _ h9 => h9) rfl dX6_unavoidable_46 ?_
                refine lv_iload hx hb dX6_unavoidable_49 (lv_at hl 0 rfl) ?_
                refine va_iald hx hb hK hP 3 0 rfl rfl (tr_in h_73052 (by decide) (by decide)) dX6_unavoidable_51 ?_
                refine lv_topi (fun v_73055 v_73055_e => ?_)
                have h_v_73055 : 0 ≤ (v_73055 : Int32).toInt ∧ (v_73055 : Int32).toInt ≤ 3 := by rw [v_73055_e]; exact h_n_fkind _
                refine lv_iconst (v := 2) hx hb dX6_unavoidable_52 (by decide) ?_
                refine lv_icmp_ne (tgt := 68) hx hb dX6_unavoidable_53 (by decide) (fun c_73056 => ?_) (fun c_73056 => ?_)
                · skip
                  refine lv_aload_n hx hb dX6_unavoidable_68 rfl (lv_at hl 4 rfl) ?_
                  refine va_get (D := D) (ci := 6) (v := .ref co) (C := RX6) (T := TX6) (N := 4) hx hb hts inlX6 hown hK hP 0 rfl rfl 1 (by decide) (hts (Cond.fieldLink RX6 28 "ChanceRings$Solver" "course" "LChanceRings$Course;") qw_545) (fun _ h9 => h9) rfl dX6_unavoidable_69 ?_
                  refine lv_aload_n hx hb dX6_unavoidable_72 rfl (lv_at hl 5 rfl) ?_
                  refine lv_iload hx hb dX6_unavoidable_73 (lv_at hl 0 rfl) ?_
                  have hPc := hP.sub (ws' := [(wO0 co n eq co_place), (wO2 n n_nodes n_kind n_pay n_name n_ways n_held n_targets n_weights), (wI g n_kind 0 12 n_fkind), (wI g n_ways 0 12 n_fways), (wI g n_targets 0 36 n_ftargets), (wI g n_weights 0 36 n_fweights), (wI g pl 0 12 plf)]) [1, 2, 3, 5, 7, 8, 9] rfl
                  refine vp_callSi (va_Run.run (va_runV (As := [.ref pl, .int x_73048]) (rest := []) ⟨hx, hb, hml, hown, hts⟩ (c_X0_follow l D g co pl x_73048 n eq co_place n_nodes n_kind n_pay n_name n_ways n_held n_targets n_weights n_fkind n_fways n_ftargets n_fweights plf (tr_w h_73052 (by decide) (by decide)) (tr_w h_73053 (by decide) (by decide)) (tr_wa h_n_fkind (by decide) (by decide)) (tr_wa h_n_fways (by decide) (by decide)) (tr_wa h_n_ftargets (by decide) (by decide)) (tr_wa h_plf (by decide) (by decide))) (cwV 2 hts (tz_gV qw_546 qw_547 qw_548 qw_470 qw_549) rfl rfl rfl (by decide +kernel) ⟨Nat.le_of_ble_eq_true rfl, Nat.le_of_ble_eq_true rfl⟩) ⟨tz_blS, va_recv hK hPc (ci := 0) (q0 := 0) rfl rfl, tz_preS hPc hK⟩ rfl rfl hl.1 rfl (lv_room (Nat.le_of_ble_eq_true rfl)) dX6_unavoidable_75 ⟨Nat.le_of_ble_eq_true rfl, Nat.le_of_ble_eq_true rfl⟩)) (fun r_73058 hw => ?_)
                  refine lv_istore (lv' := [(6, .int r_73058), (5, .int x_73048), (3, .int x_72710), (4, .int x_72708), (2, .int x_73049), (0, .ref sv), (1, .ref pl)]) hx hb dX6_unavoidable_78 hl (by decide) rfl (fun ls hl => ?_)
                  refine lv_aload_n hx hb dX6_unavoidable_80 rfl (lv_at hl 5 rfl) ?_
                  refine va_get (D := D) (ci := 6) (v := .ref n) (C := RX6) (T := TX6) (N := 4) hx hb hts inlX6 hown hK hP 0 rfl rfl 0 (by decide) (hts (Cond.fieldLink RX6 19 "ChanceRings$Solver" "net" "LChanceRings$Net;") qw_528) (fun _ h9 => h9) rfl dX6_unavoidable_81 ?_
                  refine va_get (D := D) (ci := 2) (v := .ref n_kind) (C := RX2) (T := TX2) (N := 8) hx hb hts inlX2 hown hK hP 2 rfl rfl 1 (by decide) (hts (Cond.fieldLink RX6 61 "ChanceRings$Net" "kind" "[I") qw_531) (fun _ h9 => h9) rfl dX6_unavoidable_84 ?_
                  refine lv_iload hx hb dX6_unavoidable_87 (lv_at hl 1 rfl) ?_
                  refine va_iald hx hb hK hP 3 0 rfl rfl (tr_in h_73052 (by decide) (by decide)) dX6_unavoidable_89 ?_
                  refine tz_i (y := v_73055) v_73055_e.symm ?_
                  refine lv_iconst (v := 2) hx hb dX6_unavoidable_90 (by decide) ?_
                  refine lv_icmp_ne (tgt := 98) hx hb dX6_unavoidable_91 (by decide) (fun c_73059 => ?_) (fun c_73059 => ?_)
                  · skip
                    refine lv_iconst (v := 0) hx hb dX6_unavoidable_98 (by decide) ?_
                    refine lv_istore (lv' := [(7, .int 0), (6, .int r_73058), (5, .int x_73048), (3, .int x_72710), (4, .int x_72708), (2, .int x_73049), (0, .ref sv), (1, .ref pl)]) hx hb dX6_unavoidable_99 hl (by decide) rfl (fun ls hl => ?_)
                    refine lv_aload_n hx hb dX6_unavoidable_101 rfl (lv_at hl 6 rfl) ?_
                    refine va_get (D := D) (ci := 6) (v := .ref n) (C := RX6) (T := TX6) (N := 4) hx hb hts inlX6 hown hK hP 0 rfl rfl 0 (by decide) (hts (Cond.fieldLink RX6 19 "ChanceRings$Solver" "net" "LChanceRings$Net;") qw_528) (fun _ h9 => h9) rfl dX6_unavoidable_102 ?_
                    refine va_get (D := D) (ci := 2) (v := .ref n_kind) (C := RX2) (T := TX2) (N := 8) hx hb hts inlX2 hown hK hP 2 rfl rfl 1 (by decide) (hts (Cond.fieldLink RX6 61 "ChanceRings$Net" "kind" "[I") qw_531) (fun _ h9 => h9) rfl dX6_unavoidable_105 ?_
                    refine lv_iload hx hb dX6_unavoidable_108 (lv_at hl 2 rfl) ?_
                    refine va_iald hx hb hK hP 3 0 rfl rfl (tr_in h_73052 (by decide) (by decide)) dX6_unavoidable_110 ?_
                    refine tz_i (y := v_73055) v_73055_e.symm ?_
                    refine lv_if_eq (tgt := 145) hx hb dX6_unavoidable_111 (by decide) (fun c_73061 => ?_) (fun c_73061 => ?_)
                    · skip
                      have c_73061_i : (v_73055 : Int32).toInt = (0 : Int32).toInt := congrArg Int32.toInt c_73061
                      have h_73062 : 0 ≤ (v_73055 : Int32).toInt ∧ (v_73055 : Int32).toInt ≤ 0 := nr_eq_l h_v_73055 (⟨by decide, by decide⟩ : 0 ≤ (0 : Int32).toInt ∧ (0 : Int32).toInt ≤ 0) c_73061_i (by decide) (by decide)
                      obtain ⟨v_73064, v_73064_e⟩ : ∃ y : Int32, y = x_73048 + Int32.ofInt 1 := ⟨_, rfl⟩
                      have h_v_73064 : 1 ≤ (v_73064 : Int32).toInt ∧ (v_73064 : Int32).toInt ≤ 12 := by rw [v_73064_e]; exact tr_add h_73052 (⟨by decide, by decide⟩ : 1 ≤ (Int32.ofInt 1 : Int32).toInt ∧ (Int32.ofInt 1 : Int32).toInt ≤ 1) (by decide) (by decide) (by decide) (by decide)
                      have q_v_73064 : v_73064.toInt = x_73048.toInt + 1 := by rw [v_73064_e]; exact tr_addE h_73052 (⟨by decide, by decide⟩ : 1 ≤ (Int32.ofInt 1 : Int32).toInt ∧ (Int32.ofInt 1 : Int32).toInt ≤ 1) (by decide) (by decide)
                      refine lv_iinc (v := v_73064) (lv' := [(5, .int v_73064), (7, .int 0), (6, .int r_73058), (3, .int x_72710), (4, .int x_72708), (2, .int x_73049), (0, .ref sv), (1, .ref pl)]) hx hb dX6_unavoidable_145 hl (k := 2) rfl v_73064_e.symm (by decide) rfl (fun ls hl => ?_)
                      refine lv_goto (tgt := 30) hx hb dX6_unavoidable_148 (by decide) ?_
                      exact ih_73050 v_73064 x_73049 ls (tr_w h_v_73064 (by decide) (by decide)) (by (first | (clear h_x_72708 c_72712_i h_72714 h_v_73055 c_73061_i h_73062; omega) | omega)) (lv_sub hl [0, 3, 4, 5, 6, 7] rfl)
                    · skip
                      have c_73061_i : ¬ (v_73055 : Int32).toInt = (0 : Int32).toInt := (fun q => c_73061 (Int32.toInt_inj.mp q))
                      have h_73063 : 1 ≤ (v_73055 : Int32).toInt ∧ (v_73055 : Int32).toInt ≤ 3 := nr_ne_l h_v_73055 (⟨by decide, by decide⟩ : 0 ≤ (0 : Int32).toInt ∧ (0 : Int32).toInt ≤ 0) c_73061_i (by decide) (by decide)
                      refine lv_iload hx hb dX6_unavoidable_114 (lv_at hl 0 rfl) ?_
                      refine lv_if_eq (tgt := 131) hx hb dX6_unavoidable_116 (by decide) (fun _ => ?_) (fun h9 => (h9 (by decide)).elim)
                      refine lv_iload hx hb dX6_unavoidable_131 (lv_at hl 1 rfl) ?_
                      refine lv_iload_n hx hb dX6_unavoidable_133 rfl (lv_at hl 5 rfl) ?_
                      refine lv_iand hx hb dX6_unavoidable_134 ?_
                      refine lv_topi (fun v_73065 v_73065_e => ?_)
                      refine lv_if_eq (tgt := 145) hx hb dX6_unavoidable_135 (by decide) (fun c_73066 => ?_) (fun c_73066 => ?_)
                      · skip
                        have h_73067 : 0 ≤ (v_73065 : Int32).toInt ∧ (v_73065 : Int32).toInt ≤ 0 := by rw [c_73066]; exact ⟨by decide, by decide⟩
                        obtain ⟨v_73068, v_73068_e⟩ : ∃ y : Int32, y = x_73048 + Int32.ofInt 1 := ⟨_, rfl⟩
                        have h_v_73068 : 1 ≤ (v_73068 : Int32).toInt ∧ (v_73068 : Int32).toInt ≤ 12 := by rw [v_73068_e]; exact tr_add h_73052 (⟨by decide, by decide⟩ : 1 ≤ (Int32.ofInt 1 : Int32).toInt ∧ (Int32.ofInt 1 : Int32).toInt ≤ 1) (by decide) (by decide) (by decide) (by decide)
                        have q_v_73068 : v_73068.toInt = x_73048.toInt + 1 := by rw [v_73068_e]; exact tr_addE h_73052 (⟨by decide, by decide⟩ : 1 ≤ (Int32.ofInt 1 : Int32).toInt ∧ (Int32.ofInt 1 : Int32).toInt ≤ 1) (by decide) (by decide)
                        refine lv_iinc (v := v_73068) (lv' := [(5, .int v_73068), (7, .int 0), (6, .int r_73058), (3, .int x_72710), (4, .int x_72708), (2, .int x_73049), (0, .ref sv), (1, .ref pl)]) hx hb dX6_unavoidable_145 hl (k := 2) rfl v_73068_e.symm (by decide) rfl (fun ls hl => ?_)
                        refine lv_goto (tgt := 30) hx hb dX6_unavoidable_148 (by decide) ?_
                        exact ih_73050 v_73068 x_73049 ls (tr_w h_v_73068 (by decide) (by decide)) (by (first | (clear h_x_72708 c_72712_i h_72714 h_v_73055 c_73061_i h_73063 h_73067; omega) | omega)) (lv_sub hl [0, 3, 4, 5, 6, 7] rfl)
                      · skip
                        refine lv_iload_n hx hb dX6_unavoidable_138 rfl (lv_at hl 5 rfl) ?_
                        refine lv_iconst (v := 1) hx hb dX6_unavoidable_139 (by decide) ?_
                        refine lv_iload hx hb dX6_unavoidable_140 (lv_at hl 2 rfl) ?_
                        refine lv_ishl hx hb dX6_unavoidable_142 ?_
                        refine lv_topi (fun v_73069 v_73069_e => ?_)
                        refine lv_ior hx hb dX6_unavoidable_143 ?_
                        refine lv_topi (fun v_73070 v_73070_e => ?_)
                        refine lv_istore_n (lv' := [(2, .int v_73070), (7, .int 0), (6, .int r_73058), (5, .int x_73048), (3, .int x_72710), (4, .int x_72708), (0, .ref sv), (1, .ref pl)]) hx hb dX6_unavoidable_144 rfl hl (by decide) rfl (fun ls hl => ?_)
                        obtain ⟨v_73071, v_73071_e⟩ : ∃ y : Int32, y = x_73048 + Int32.ofInt 1 := ⟨_, rfl⟩
                        have h_v_73071 : 1 ≤ (v_73071 : Int32).toInt ∧ (v_73071 : Int32).toInt ≤ 12 := by rw [v_73071_e]; exact tr_add h_73052 (⟨by decide, by decide⟩ : 1 ≤ (Int32.ofInt 1 : Int32).toInt ∧ (Int32.ofInt 1 : Int32).toInt ≤ 1) (by decide) (by decide) (by decide) (by decide)
                        have q_v_73071 : v_73071.toInt = x_73048.toInt + 1 := by rw [v_73071_e]; exact tr_addE h_73052 (⟨by decide, by decide⟩ : 1 ≤ (Int32.ofInt 1 : Int32).toInt ∧ (Int32.ofInt 1 : Int32).toInt ≤ 1) (by decide) (by decide)
                        refine lv_iinc (v := v_73071) (lv' := [(5, .int v_73071), (2, .int v_73070), (7, .int 0), (6, .int r_73058), (3, .int x_72710), (4, .int x_72708), (0, .ref sv), (1, .ref pl)]) hx hb dX6_unavoidable_145 hl (k := 3) rfl v_73071_e.symm (by decide) rfl (fun ls hl => ?_)
                        refine lv_goto (tgt := 30) hx hb dX6_unavoidable_148 (by decide) ?_
                        exact ih_73050 v_73071 v_73070 ls (tr_w h_v_73071 (by decide) (by decide)) (by (first | (clear h_x_72708 c_72712_i h_72714 h_v_73055 c_73061_i h_73063; omega) | omega)) (lv_sub hl [0, 4, 5, 1, 6, 7] rfl)
                  · skip
                    have c_73059_i : (v_73055 : Int32).toInt = (2 : Int32).toInt := congrArg Int32.toInt c_73059
                    have h_73060 : 2 ≤ (v_73055 : Int32).toInt ∧ (v_73055 : Int32).toInt ≤ 2 := nr_eq_l h_v_73055 (⟨by decide, by decide⟩ : 2 ≤ (2 : Int32).toInt ∧ (2 : Int32).toInt ≤ 2) c_73059_i (by decide) (by decide)
                    refine lv_iconst (v := 1) hx hb dX6_unavoidable_94 (by decide) ?_
                    refine lv_goto (tgt := 99) hx hb dX6_unavoidable_95 (by decide) ?_
                    refine lv_istore (lv' := [(7, .int 1), (6, .int r_73058), (5, .int x_73048), (3, .int x_72710), (4, .int x_72708), (2, .int x_73049), (0, .ref sv), (1, .ref pl)]) hx hb dX6_unavoidable_99 hl (by decide) rfl (fun ls hl => ?_)
                    refine lv_aload_n hx hb dX6_unavoidable_101 rfl (lv_at hl 6 rfl) ?_
                    refine va_get (D := D) (ci := 6) (v := .ref n) (C := RX6) (T := TX6) (N := 4) hx hb hts inlX6 hown hK hP 0 rfl rfl 0 (by decide) (hts (Cond.fieldLink RX6 19 "ChanceRings$Solver" "net" "LChanceRings$Net;") qw_528) (fun _ h9 => h9) rfl dX6_unavoidable_102 ?_
                    refine va_get (D := D) (ci := 2) (v := .ref n_kind) (C := RX2) (T := TX2) (N := 8) hx hb hts inlX2 hown hK hP 2 rfl rfl 1 (by decide) (hts (Cond.fieldLink RX6 61 "ChanceRings$Net" "kind" "[I") qw_531) (fun _ h9 => h9) rfl dX6_unavoidable_105 ?_
                    refine lv_iload hx hb dX6_unavoidable_108 (lv_at hl 2 rfl) ?_
                    refine va_iald hx hb hK hP 3 0 rfl rfl (tr_in h_73052 (by decide) (by decide)) dX6_unavoidable_110 ?_
                    refine tz_i (y := v_73055) v_73055_e.symm ?_
                    refine lv_if_eq (tgt := 145) hx hb dX6_unavoidable_111 (by decide) (fun h9 => (nr_x_eq h_73060 (⟨by decide, by decide⟩ : 0 ≤ (0 : Int32).toInt ∧ (0 : Int32).toInt ≤ 0) (congrArg Int32.toInt h9) (by decide)).elim) (fun c_73072 => ?_)
                    refine lv_iload hx hb dX6_unavoidable_114 (lv_at hl 0 rfl) ?_
                    refine lv_if_eq (tgt := 131) hx hb dX6_unavoidable_116 (by decide) (fun h9 => absurd h9 (by decide)) (fun _ => ?_)
                    refine lv_iload hx hb dX6_unavoidable_119 (lv_at hl 1 rfl) ?_
                    refine lv_iload_n hx hb dX6_unavoidable_121 rfl (lv_at hl 5 rfl) ?_
                    refine lv_iconst (v := (-1)) hx hb dX6_unavoidable_122 (by decide) ?_
                    refine lv_ixor hx hb dX6_unavoidable_123 ?_
                    refine lv_topi (fun v_73073 v_73073_e => ?_)
                    refine lv_iand hx hb dX6_unavoidable_124 ?_
                    refine lv_topi (fun v_73074 v_73074_e => ?_)
                    refine lv_if_ne (tgt := 145) hx hb dX6_unavoidable_125 (by decide) (fun c_73075 => ?_) (fun c_73075 => ?_)
                    · skip
                      obtain ⟨v_73077, v_73077_e⟩ : ∃ y : Int32, y = x_73048 + Int32.ofInt 1 := ⟨_, rfl⟩
                      have h_v_73077 : 1 ≤ (v_73077 : Int32).toInt ∧ (v_73077 : Int32).toInt ≤ 12 := by rw [v_73077_e]; exact tr_add h_73052 (⟨by decide, by decide⟩ : 1 ≤ (Int32.ofInt 1 : Int32).toInt ∧ (Int32.ofInt 1 : Int32).toInt ≤ 1) (by decide) (by decide) (by decide) (by decide)
                      have q_v_73077 : v_73077.toInt = x_73048.toInt + 1 := by rw [v_73077_e]; exact tr_addE h_73052 (⟨by decide, by decide⟩ : 1 ≤ (Int32.ofInt 1 : Int32).toInt ∧ (Int32.ofInt 1 : Int32).toInt ≤ 1) (by decide) (by decide)
                      refine lv_iinc (v := v_73077) (lv' := [(5, .int v_73077), (7, .int 1), (6, .int r_73058), (3, .int x_72710), (4, .int x_72708), (2, .int x_73049), (0, .ref sv), (1, .ref pl)]) hx hb dX6_unavoidable_145 hl (k := 2) rfl v_73077_e.symm (by decide) rfl (fun ls hl => ?_)
                      refine lv_goto (tgt := 30) hx hb dX6_unavoidable_148 (by decide) ?_
                      exact ih_73050 v_73077 x_73049 ls (tr_w h_v_73077 (by decide) (by decide)) (by (first | (clear h_x_72708 c_72712_i h_72714 h_v_73055 c_73059_i h_73060; omega) | omega)) (lv_sub hl [0, 3, 4, 5, 6, 7] rfl)
                    · skip
                      have h_73076 : 0 ≤ (v_73074 : Int32).toInt ∧ (v_73074 : Int32).toInt ≤ 0 := by rw [c_73075]; exact ⟨by decide, by decide⟩
                      refine lv_goto (tgt := 138) hx hb dX6_unavoidable_128 (by decide) ?_
                      refine lv_iload_n hx hb dX6_unavoidable_138 rfl (lv_at hl 5 rfl) ?_
                      refine lv_iconst (v := 1) hx hb dX6_unavoidable_139 (by decide) ?_
                      refine lv_iload hx hb dX6_unavoidable_140 (lv_at hl 2 rfl) ?_
                      refine lv_ishl hx hb dX6_unavoidable_142 ?_
                      refine lv_topi (fun v_73078 v_73078_e => ?_)
                      refine lv_ior hx hb dX6_unavoidable_143 ?_
                      refine lv_topi (fun v_73079 v_73079_e => ?_)
                      refine lv_istore_n (lv' := [(2, .int v_73079), (7, .int 1), (6, .int r_73058), (5, .int x_73048), (3, .int x_72710), (4, .int x_72708), (0, .ref sv), (1, .ref pl)]) hx hb dX6_unavoidable_144 rfl hl (by decide) rfl (fun ls hl => ?_)
                      obtain ⟨v_73080, v_73080_e⟩ : ∃ y : Int32, y = x_73048 + Int32.ofInt 1 := ⟨_, rfl⟩
                      have h_v_73080 : 1 ≤ (v_73080 : Int32).toInt ∧ (v_73080 : Int32).toInt ≤ 12 := by rw [v_73080_e]; exact tr_add h_73052 (⟨by decide, by decide⟩ : 1 ≤ (Int32.ofInt 1 : Int32).toInt ∧ (Int32.ofInt 1 : Int32).toInt ≤ 1) (by decide) (by decide) (by decide) (by decide)
                      have q_v_73080 : v_73080.toInt = x_73048.toInt + 1 := by rw [v_73080_e]; exact tr_addE h_73052 (⟨by decide, by decide⟩ : 1 ≤ (Int32.ofInt 1 : Int32).toInt ∧ (Int32.ofInt 1 : Int32).toInt ≤ 1) (by decide) (by decide)
                      refine lv_iinc (v := v_73080) (lv' := [(5, .int v_73080), (2, .int v_73079), (7, .int 1), (6, .int r_73058), (3, .int x_72710), (4, .int x_72708), (0, .ref sv), (1, .ref pl)]) hx hb dX6_unavoidable_145 hl (k := 3) rfl v_73080_e.symm (by decide) rfl (fun ls hl => ?_)
                      refine lv_goto (tgt := 30) hx hb dX6_unavoidable_148 (by decide) ?_
                      exact ih_73050 v_73080 v_73079 ls (tr_w h_v_73080 (by decide) (by decide)) (by (first | (clear h_x_72708 c_72712_i h_72714 h_v_73055 c_73059_i h_73060 h_73076; omega) | omega)) (lv_sub hl [0, 4, 5, 1, 6, 7] rfl)
                · skip
                  have c_73056_i : (v_73055 : Int32).toInt = (2 : Int32).toInt := congrArg Int32.toInt c_73056
                  have h_73057 : 2 ≤ (v_73055 : Int32).toInt ∧ (v_73055 : Int32).toInt ≤ 2 := nr_eq_l h_v_73055 (⟨by decide, by decide⟩ : 2 ≤ (2 : Int32).toInt ∧ (2 : Int32).toInt ≤ 2) c_73056_i (by decide) (by decide)
                  refine lv_aload_n hx hb dX6_unavoidable_56 rfl (lv_at hl 4 rfl) ?_
                  refine va_get (D := D) (ci := 6) (v := .ref n) (C := RX6) (T := TX6) (N := 4) hx hb hts inlX6 hown hK hP 0 rfl rfl 0 (by decide) (hts (Cond.fieldLink RX6 19 "ChanceRings$Solver" "net" "LChanceRings$Net;") qw_528) (fun _ h9 => h9) rfl dX6_unavoidable_57 ?_
                  refine lv_iload hx hb dX6_unavoidable_60 (lv_at hl 0 rfl) ?_
                  have hPc := hP.sub (ws' := [(wO2 n n_nodes n_kind n_pay n_name n_ways n_held n_targets n_weights), (wI g n_ways 0 12 n_fways), (wI g n_held 0 12 n_fheld), (wI g n_targets 0 36 n_ftargets)]) [2, 5, 6, 7] rfl
                  refine vp_callSi (va_Run.run (va_runV (As := [.int x_73048]) (rest := []) ⟨hx, hb, hml, hown, hts⟩ (c_X2_nextNodes l D g n x_73048 n_nodes n_kind n_pay n_name n_ways n_held n_targets n_weights n_fways n_fheld n_ftargets (tr_w h_73052 (by decide) (by decide)) (tr_w h_73053 (by decide) (by decide)) (tr_wa h_n_fways (by decide) (by decide)) (tr_wa h_n_fheld (by decide) (by decide)) (tr_wa h_n_ftargets (by decide) (by decide))) (cwV 1 hts (tz_gV qw_550 qw_459 qw_460 qw_322 qw_461) rfl rfl rfl (by decide +kernel) ⟨Nat.le_of_ble_eq_true rfl, Nat.le_of_ble_eq_true rfl⟩) ⟨tz_blS, va_recv hK hPc (ci := 2) (q0 := 0) rfl rfl, tz_preS hPc hK⟩ rfl rfl hl.1 rfl (lv_room (Nat.le_of_ble_eq_true rfl)) dX6_unavoidable_62 ⟨Nat.le_of_ble_eq_true rfl, Nat.le_of_ble_eq_true rfl⟩)) (fun r_73081 hw => ?_)
                  refine lv_goto (tgt := 78) hx hb dX6_unavoidable_65 (by decide) ?_
                  refine lv_istore (lv' := [(6, .int r_73081), (5, .int x_73048), (3, .int x_72710), (4, .int x_72708), (2, .int x_73049), (0, .ref sv), (1, .ref pl)]) hx hb dX6_unavoidable_78 hl (by decide) rfl (fun ls hl => ?_)
                  refine lv_aload_n hx hb dX6_unavoidable_80 rfl (lv_at hl 5 rfl) ?_
                  refine va_get (D := D) (ci := 6) (v := .ref n) (C := RX6) (T := TX6) (N := 4) hx hb hts inlX6 hown hK hP 0 rfl rfl 0 (by decide) (hts (Cond.fieldLink RX6 19 "ChanceRings$Solver" "net" "LChanceRings$Net;") qw_528) (fun _ h9 => h9) rfl dX6_unavoidable_81 ?_
                  refine va_get (D := D) (ci := 2) (v := .ref n_kind) (C := RX2) (T := TX2) (N := 8) hx hb hts inlX2 hown hK hP 2 rfl rfl 1 (by decide) (hts (Cond.fieldLink RX6 61 "ChanceRings$Net" "kind" "[I") qw_531) (fun _ h9 => h9) rfl dX6_unavoidable_84 ?_
                  refine lv_iload hx hb dX6_unavoidable_87 (lv_at hl 1 rfl) ?_
                  refine va_iald hx hb hK hP 3 0 rfl rfl (tr_in h_73052 (by decide) (by decide)) dX6_unavoidable_89 ?_
                  refine tz_i (y := v_73055) v_73055_e.symm ?_
                  refine lv_iconst (v := 2) hx hb dX6_unavoidable_90 (by decide) ?_
                  refine lv_icmp_ne (tgt := 98) hx hb dX6_unavoidable_91 (by decide) (fun h9 => (nr_x_ne h_73057 (⟨by decide, by decide⟩ : 2 ≤ (2 : Int32).toInt ∧ (2 : Int32).toInt ≤ 2) (fun q => h9 (Int32.toInt_inj.mp q)) (by decide)).elim) (fun c_73082 => ?_)
                  refine lv_iconst (v := 1) hx hb dX6_unavoidable_94 (by decide) ?_
                  refine lv_goto (tgt := 99) hx hb dX6_unavoidable_95 (by decide) ?_
                  refine lv_istore (lv' := [(7, .int 1), (6, .int r_73081), (5, .int x_73048), (3, .int x_72710), (4, .int x_72708), (2, .int x_73049), (0, .ref sv), (1, .ref pl)]) hx hb dX6_unavoidable_99 hl (by decide) rfl (fun ls hl => ?_)
                  refine lv_aload_n hx hb dX6_unavoidable_101 rfl (lv_at hl 6 rfl) ?_
                  refine va_get (D := D) (ci := 6) (v := .ref n) (C := RX6) (T := TX6) (N := 4) hx hb hts inlX6 hown hK hP 0 rfl rfl 0 (by decide) (hts (Cond.fieldLink RX6 19 "ChanceRings$Solver" "net" "LChanceRings$Net;") qw_528) (fun _ h9 => h9) rfl dX6_unavoidable_102 ?_
                  refine va_get (D := D) (ci := 2) (v := .ref n_kind) (C := RX2) (T := TX2) (N := 8) hx hb hts inlX2 hown hK hP 2 rfl rfl 1 (by decide) (hts (Cond.fieldLink RX6 61 "ChanceRings$Net" "kind" "[I") qw_531) (fun _ h9 => h9) rfl dX6_unavoidable_105 ?_
                  refine lv_iload hx hb dX6_unavoidable_108 (lv_at hl 2 rfl) ?_
                  refine va_iald hx hb hK hP 3 0 rfl rfl (tr_in h_73052 (by decide) (by decide)) dX6_unavoidable_110 ?_
                  refine tz_i (y := v_73055) v_73055_e.symm ?_
                  refine lv_if_eq (tgt := 145) hx hb dX6_unavoidable_111 (by decide) (fun h9 => (nr_x_eq h_73057 (⟨by decide, by decide⟩ : 0 ≤ (0 : Int32).toInt ∧ (0 : Int32).toInt ≤ 0) (congrArg Int32.toInt h9) (by decide)).elim) (fun c_73083 => ?_)
                  refine lv_iload hx hb dX6_unavoidable_114 (lv_at hl 0 rfl) ?_
                  refine lv_if_eq (tgt := 131) hx hb dX6_unavoidable_116 (by decide) (fun h9 => absurd h9 (by decide)) (fun _ => ?_)
                  refine lv_iload hx hb dX6_unavoidable_119 (lv_at hl 1 rfl) ?_
                  refine lv_iload_n hx hb dX6_unavoidable_121 rfl (lv_at hl 5 rfl) ?_
                  refine lv_iconst (v := (-1)) hx hb dX6_unavoidable_122 (by decide) ?_
                  refine lv_ixor hx hb dX6_unavoidable_123 ?_
                  refine lv_topi (fun v_73084 v_73084_e => ?_)
                  refine lv_iand hx hb dX6_unavoidable_124 ?_
                  refine lv_topi (fun v_73085 v_73085_e => ?_)
                  refine lv_if_ne (tgt := 145) hx hb dX6_unavoidable_125 (by decide) (fun c_73086 => ?_) (fun c_73086 => ?_)
                  · skip
                    obtain ⟨v_73088, v_73088_e⟩ : ∃ y : Int32, y = x_73048 + Int32.ofInt 1 := ⟨_, rfl⟩
                    have h_v_73088 : 1 ≤ (v_73088 : Int32).toInt ∧ (v_73088 : Int32).toInt ≤ 12 := by rw [v_73088_e]; exact tr_add h_73052 (⟨by decide, by decide⟩ : 1 ≤ (Int32.ofInt 1 : Int32).toInt ∧ (Int32.ofInt 1 : Int32).toInt ≤ 1) (by decide) (by decide) (by decide) (by decide)
                    have q_v_73088 : v_73088.toInt = x_73048.toInt + 1 := by rw [v_73088_e]; exact tr_addE h_73052 (⟨by decide, by decide⟩ : 1 ≤ (Int32.ofInt 1 : Int32).toInt ∧ (Int32.ofInt 1 : Int32).toInt ≤ 1) (by decide) (by decide)
                    refine lv_iinc (v := v_73088) (lv' := [(5, .int v_73088), (7, .int 1), (6, .int r_73081), (3, .int x_72710), (4, .int x_72708), (2, .int x_73049), (0, .ref sv), (1, .ref pl)]) hx hb dX6_unavoidable_145 hl (k := 2) rfl v_73088_e.symm (by decide) rfl (fun ls hl => ?_)
                    refine lv_goto (tgt := 30) hx hb dX6_unavoidable_148 (by decide) ?_
                    exact ih_73050 v_73088 x_73049 ls (tr_w h_v_73088 (by decide) (by decide)) (by (first | (clear h_x_72708 c_72712_i h_72714 h_v_73055 c_73056_i h_73057; omega) | omega)) (lv_sub hl [0, 3, 4, 5, 6, 7] rfl)
                  · skip
                    have h_73087 : 0 ≤ (v_73085 : Int32).toInt ∧ (v_73085 : Int32).toInt ≤ 0 := by rw [c_73086]; exact ⟨by decide, by decide⟩
                    refine lv_goto (tgt := 138) hx hb dX6_unavoidable_128 (by decide) ?_
                    refine lv_iload_n hx hb dX6_unavoidable_138 rfl (lv_at hl 5 rfl) ?_
                    refine lv_iconst (v := 1) hx hb dX6_unavoidable_139 (by decide) ?_
                    refine lv_iload hx hb dX6_unavoidable_140 (lv_at hl 2 rfl) ?_
                    refine lv_ishl hx hb dX6_unavoidable_142 ?_
                    refine lv_topi (fun v_73089 v_73089_e => ?_)
                    refine lv_ior hx hb dX6_unavoidable_143 ?_
                    refine lv_topi (fun v_73090 v_73090_e => ?_)
                    refine lv_istore_n (lv' := [(2, .int v_73090), (7, .int 1), (6, .int r_73081), (5, .int x_73048), (3, .int x_72710), (4, .int x_72708), (0, .ref sv), (1, .ref pl)]) hx hb dX6_unavoidable_144 rfl hl (by decide) rfl (fun ls hl => ?_)
                    obtain ⟨v_73091, v_73091_e⟩ : ∃ y : Int32, y = x_73048 + Int32.ofInt 1 := ⟨_, rfl⟩
                    have h_v_73091 : 1 ≤ (v_73091 : Int32).toInt ∧ (v_73091 : Int32).toInt ≤ 12 := by rw [v_73091_e]; exact tr_add h_73052 (⟨by decide, by decide⟩ : 1 ≤ (Int32.ofInt 1 : Int32).toInt ∧ (Int32.ofInt 1 : Int32).toInt ≤ 1) (by decide) (by decide) (by decide) (by decide)
                    have q_v_73091 : v_73091.toInt = x_73048.toInt + 1 := by rw [v_73091_e]; exact tr_addE h_73052 (⟨by decide, by decide⟩ : 1 ≤ (Int32.ofInt 1 : Int32).toInt ∧ (Int32.ofInt 1 : Int32).toInt ≤ 1) (by decide) (by decide)
                    refine lv_iinc (v := v_73091) (lv' := [(5, .int v_73091), (2, .int v_73090), (7, .int 1), (6, .int r_73081), (3, .int x_72710), (4, .int x_72708), (0, .ref sv), (1, .ref pl)]) hx hb dX6_unavoidable_145 hl (k := 3) rfl v_73091_e.symm (by decide) rfl (fun ls hl => ?_)
                    refine lv_goto (tgt := 30) hx hb dX6_unavoidable_148 (by decide) ?_
                    exact ih_73050 v_73091 v_73090 ls (tr_w h_v_73091 (by decide) (by decide)) (by (first | (clear h_x_72708 c_72712_i h_72714 h_v_73055 c_73056_i h_73057 h_73087; omega) | omega)) (lv_sub hl [0, 4, 5, 1, 6, 7] rfl)
          exact lp_73050 13 0 x_72710 ls (⟨by decide, by decide⟩ : 0 ≤ (0 : Int32).toInt ∧ (0 : Int32).toInt ≤ 12) (by decide) (lv_sub hl [0, 1, 2, 3, 4, 5] rfl)
  exact lp_72711 13 0 (-1) r_69677 ls (⟨by decide, by decide⟩ : 0 ≤ (0 : Int32).toInt ∧ (0 : Int32).toInt ≤ 12) (by decide) (lv_sub hl [0, 1, 2, 3, 4] rfl)
set_option maxHeartbeats 4000000 in
set_option maxRecDepth 100000 in
theorem c_X6_findLeft (l : Launch) (D : va_G) (g : Nat → ClassId) (sz : Nat) (sv : Nat) (pl : Nat) (p0 : Int32) (p1 : Int32) (vs : Nat) (n : Nat) (co : Nat) (sv_keep : Nat) (sv_scaled : Nat) (eq : Nat) (co_place : Nat) (n_nodes : Int32) (n_kind : Nat) (n_pay : Nat) (n_name : Nat) (n_ways : Nat) (n_held : Nat) (n_targets : Nat) (n_weights : Nat) (n_fkind : Nat → Int32) (n_fpay : Nat → Int32) (n_fways : Nat → Int32) (n_fheld : Nat → Int32) (n_ftargets : Nat → Int32) (n_fweights : Nat → Int32) (pcf : Nat → Int32) (eq_rows : Nat) (eq_right : Nat) (ew : Int64) (fr : Nat → Int64) (rr : Nat → Nat) (ct : Nat → Nat → Int64) (plf : Nat → Int32) (vs_part : Nat) (vsw : Int64) (vsp : Nat → Int64) (h_n_nodes : 0 ≤ (n_nodes : Int32).toInt ∧ (n_nodes : Int32).toInt ≤ 12) (h_n_fkind : ∀ j : Nat, 0 ≤ (n_fkind j).toInt ∧ (n_fkind j).toInt ≤ 3) (h_n_fways : ∀ j : Nat, 0 ≤ (n_fways j).toInt ∧ (n_fways j).toInt ≤ 3) (h_n_fheld : ∀ j : Nat, (-1) ≤ (n_fheld j).toInt ∧ (n_fheld j).toInt ≤ 2) (h_n_ftargets : ∀ j : Nat, 0 ≤ (n_ftargets j).toInt ∧ (n_ftargets j).toInt ≤ 11) (h_pcf : ∀ j : Nat, (-1) ≤ (pcf j).toInt ∧ (pcf j).toInt ≤ 7) (h_plf : ∀ j : Nat, 0 ≤ (plf j).toInt ∧ (plf j).toInt ≤ 2) : Met l yX6_findLeft (.code yX6_findLeft cX6_findLeft 8 none :: wsL_law) ({ frames := 4, cells := 0, slots := 0, locals := 105 }) (va_Pc [.ref sv, .ref pl, .int p0, .int p1, .ref vs] (fun U => U.heap.size = sz ∧ va_P D vwCl [(wO6 sv n co sv_keep sv_scaled), (wO0 co n eq co_place), (wO2 n n_nodes n_kind n_pay n_name n_ways n_held n_targets n_weights), (wI g n_kind 0 12 n_fkind), (wI g n_pay 0 12 n_fpay), (wI g n_ways 0 12 n_fways), (wI g n_held 0 12 n_fheld), (wI g n_targets 0 36 n_ftargets), (wI g n_weights 0 36 n_fweights), (wI g co_place 0 12 pcf), (wO1 eq eq_rows eq_right ew), (wJ g eq_right 1 8 fr), (wR g eq_rows 5 8 (fun i => if i < 8 then some (rr i) else none)), (wJ g (rr 0) 1 8 (ct 0)), (wJ g (rr 1) 1 8 (ct 1)), (wJ g (rr 2) 1 8 (ct 2)), (wJ g (rr 3) 1 8 (ct 3)), (wJ g (rr 4) 1 8 (ct 4)), (wJ g (rr 5) 1 8 (ct 5)), (wJ g (rr 6) 1 8 (ct 6)), (wJ g (rr 7) 1 8 (ct 7)), (wI g pl 0 12 plf), (wO10 vs vs_part vsw), (wJ g vs_part 1 12 vsp)] U.heap ∧ va_K D vwCl (TY g) U ∧ va_D (fun _ => True) [(wO6 sv n co sv_keep sv_scaled), (wO0 co n eq co_place), (wO2 n n_nodes n_kind n_pay n_name n_ways n_held n_targets n_weights), (wI g n_kind 0 12 n_fkind), (wI g n_pay 0 12 n_fpay), (wI g n_ways 0 12 n_fways), (wI g n_held 0 12 n_fheld), (wI g n_targets 0 36 n_ftargets), (wI g n_weights 0 36 n_fweights), (wI g co_place 0 12 pcf), (wO1 eq eq_rows eq_right ew), (wJ g eq_right 1 8 fr), (wR g eq_rows 5 8 (fun i => if i < 8 then some (rr i) else none)), (wJ g (rr 0) 1 8 (ct 0)), (wJ g (rr 1) 1 8 (ct 1)), (wJ g (rr 2) 1 8 (ct 2)), (wJ g (rr 3) 1 8 (ct 3)), (wJ g (rr 4) 1 8 (ct 4)), (wJ g (rr 5) 1 8 (ct 5)), (wJ g (rr 6) 1 8 (ct 6)), (wJ g (rr 7) 1 8 (ct 7)), (wI g pl 0 12 plf), (wO10 vs vs_part vsw), (wJ g vs_part 1 12 vsp)])) (va_Qv (fun (_ : Unit) => True) (fun _ t => ∃ opc : Nat → Int32, ∃ oew : Int64, ∃ ofr : Nat → Int64, ∃ opl : Nat → Int32, ∃ ovw : Int64, ∃ ovp : Nat → Int64, ∃ oct : Nat → Nat → Int64, (∀ j : Nat, (-1) ≤ (opc j).toInt ∧ (opc j).toInt ≤ 7) ∧ (∀ j : Nat, 0 ≤ (opl j).toInt ∧ (opl j).toInt ≤ 2) ∧ va_P D vwCl [(wO6 sv n co sv_keep sv_scaled), (wO0 co n eq co_place), (wO2 n n_nodes n_kind n_pay n_name n_ways n_held n_targets n_weights), (wI g n_kind 0 12 n_fkind), (wI g n_pay 0 12 n_fpay), (wI g n_ways 0 12 n_fways), (wI g n_held 0 12 n_fheld), (wI g n_targets 0 36 n_ftargets), (wI g n_weights 0 36 n_fweights), (wI g co_place 0 12 opc), (wO1 eq eq_rows eq_right oew), (wJ g eq_right 1 8 ofr), (wR g eq_rows 5 8 (fun i => if i < 8 then some (rr i) else none)), (wJ g (rr 0) 1 8 (oct 0)), (wJ g (rr 1) 1 8 (oct 1)), (wJ g (rr 2) 1 8 (oct 2)), (wJ g (rr 3) 1 8 (oct 3)), (wJ g (rr 4) 1 8 (oct 4)), (wJ g (rr 5) 1 8 (oct 5)), (wJ g (rr 6) 1 8 (oct 6)), (wJ g (rr 7) 1 8 (oct 7)), (wI g pl 0 12 opl), (wO10 vs vs_part ovw), (wJ g vs_part 1 12 ovp)] t.heap ∧ va_D (va_A [(wO6 sv n co sv_keep sv_scaled), (wO0 co n eq co_place), (wO2 n n_nodes n_kind n_pay n_name n_ways n_held n_targets n_weights), (wI g n_kind 0 12 n_fkind), (wI g n_pay 0 12 n_fpay), (wI g n_ways 0 12 n_fways), (wI g n_held 0 12 n_fheld), (wI g n_targets 0 36 n_ftargets), (wI g n_weights 0 36 n_fweights), (wI g co_place 0 12 pcf), (wO1 eq eq_rows eq_right ew), (wJ g eq_right 1 8 fr), (wR g eq_rows 5 8 (fun i => if i < 8 then some (rr i) else none)), (wJ g (rr 0) 1 8 (ct 0)), (wJ g (rr 1) 1 8 (ct 1)), (wJ g (rr 2) 1 8 (ct 2)), (wJ g (rr 3) 1 8 (ct 3)), (wJ g (rr 4) 1 8 (ct 4)), (wJ g (rr 5) 1 8 (ct 5)), (wJ g (rr 6) 1 8 (ct 6)), (wJ g (rr 7) 1 8 (ct 7)), (wI g pl 0 12 plf), (wO10 vs vs_part vsw), (wJ g vs_part 1 12 vsp)] sz) [(wO6 sv n co sv_keep sv_scaled), (wO0 co n eq co_place), (wO2 n n_nodes n_kind n_pay n_name n_ways n_held n_targets n_weights), (wI g n_kind 0 12 n_fkind), (wI g n_pay 0 12 n_fpay), (wI g n_ways 0 12 n_fways), (wI g n_held 0 12 n_fheld), (wI g n_targets 0 36 n_ftargets), (wI g n_weights 0 36 n_fweights), (wI g co_place 0 12 opc), (wO1 eq eq_rows eq_right oew), (wJ g eq_right 1 8 ofr), (wR g eq_rows 5 8 (fun i => if i < 8 then some (rr i) else none)), (wJ g (rr 0) 1 8 (oct 0)), (wJ g (rr 1) 1 8 (oct 1)), (wJ g (rr 2) 1 8 (oct 2)), (wJ g (rr 3) 1 8 (oct 3)), (wJ g (rr 4) 1 8 (oct 4)), (wJ g (rr 5) 1 8 (oct 5)), (wJ g (rr 6) 1 8 (oct 6)), (wJ g (rr 7) 1 8 (oct 7)), (wI g pl 0 12 opl), (wO10 vs vs_part ovw), (wJ g vs_part 1 12 ovp)]) (va_A [(wO6 sv n co sv_keep sv_scaled), (wO0 co n eq co_place), (wO2 n n_nodes n_kind n_pay n_name n_ways n_held n_targets n_weights), (wI g n_kind 0 12 n_fkind), (wI g n_pay 0 12 n_fpay), (wI g n_ways 0 12 n_fways), (wI g n_held 0 12 n_fheld), (wI g n_targets 0 36 n_ftargets), (wI g n_weights 0 36 n_fweights), (wI g co_place 0 12 pcf), (wO1 eq eq_rows eq_right ew), (wJ g eq_right 1 8 fr), (wR g eq_rows 5 8 (fun i => if i < 8 then some (rr i) else none)), (wJ g (rr 0) 1 8 (ct 0)), (wJ g (rr 1) 1 8 (ct 1)), (wJ g (rr 2) 1 8 (ct 2)), (wJ g (rr 3) 1 8 (ct 3)), (wJ g (rr 4) 1 8 (ct 4)), (wJ g (rr 5) 1 8 (ct 5)), (wJ g (rr 6) 1 8 (ct 6)), (wJ g (rr 7) 1 8 (ct 7)), (wI g pl 0 12 plf), (wO10 vs vs_part vsw), (wJ g vs_part 1 12 vsp)] sz)) 0 0 (va_A [(wO6 sv n co sv_keep sv_scaled), (wO0 co n eq co_place), (wO2 n n_nodes n_kind n_pay n_name n_ways n_held n_targets n_weights), (wI g n_kind 0 12 n_fkind), (wI g n_pay 0 12 n_fpay), (wI g n_ways 0 12 n_fways), (wI g n_held 0 12 n_fheld), (wI g n_targets 0 36 n_ftargets), (wI g n_weights 0 36 n_fweights), (wI g co_place 0 12 pcf), (wO1 eq eq_rows eq_right ew), (wJ g eq_right 1 8 fr), (wR g eq_rows 5 8 (fun i => if i < 8 then some (rr i) else none)), (wJ g (rr 0) 1 8 (ct 0)), (wJ g (rr 1) 1 8 (ct 1)), (wJ g (rr 2) 1 8 (ct 2)), (wJ g (rr 3) 1 8 (ct 3)), (wJ g (rr 4) 1 8 (ct 4)), (wJ g (rr 5) 1 8 (ct 5)), (wJ g (rr 6) 1 8 (ct 6)), (wJ g (rr 7) 1 8 (ct 7)), (wI g pl 0 12 plf), (wO10 vs vs_part vsw), (wJ g vs_part 1 12 vsp)] sz) := by
  refine Met.ofW (cc := cX6_findLeft) (maxL := 8) (ret := none) (by decide) rfl ?_
  intro p e s m args below meth c s₁ B hml hv
  obtain ⟨ha, hsz, hP, hK, hD0⟩ := hv
  have hx := B.exec
  have hb := B.bytes
  have hr := B.returns
  have hts0 := atoms_spec (ws := (.code yX6_findLeft cX6_findLeft 8 none :: wsL_law)) B.pre
  have hts : ∀ w ∈ wsL_law, w.before args s = true := fun w h => hts0 w (List.mem_cons_of_mem _ h)
  have hown : s.vm.findClass RX6 = some m.cls := findClass_of_methodNamed B.named
  have hlocks := B.notSynchronized
  subst hsz
  have hD := hD0.self (sz := s.heap.size)
  generalize hAe : va_A [(wO6 sv n co sv_keep sv_scaled), (wO0 co n eq co_place), (wO2 n n_nodes n_kind n_pay n_name n_ways n_held n_targets n_weights), (wI g n_kind 0 12 n_fkind), (wI g n_pay 0 12 n_fpay), (wI g n_ways 0 12 n_fways), (wI g n_held 0 12 n_fheld), (wI g n_targets 0 36 n_ftargets), (wI g n_weights 0 36 n_fweights), (wI g co_place 0 12 pcf), (wO1 eq eq_rows eq_right ew), (wJ g eq_right 1 8 fr), (wR g eq_rows 5 8 (fun i => if i < 8 then some (rr i) else none)), (wJ g (rr 0) 1 8 (ct 0)), (wJ g (rr 1) 1 8 (ct 1)), (wJ g (rr 2) 1 8 (ct 2)), (wJ g (rr 3) 1 8 (ct 3)), (wJ g (rr 4) 1 8 (ct 4)), (wJ g (rr 5) 1 8 (ct 5)), (wJ g (rr 6) 1 8 (ct 6)), (wJ g (rr 7) 1 8 (ct 7)), (wI g pl 0 12 plf), (wO10 vs vs_part vsw), (wJ g vs_part 1 12 vsp)] s.heap.size = A at hD ⊢
  have hA : ∀ q : Nat, s.heap.size ≤ q → A q := fun q h => by rw [← hAe]; exact Or.inr h
  have hS : va_S A s.heap s.heap [] := va_S.rf
  have hP : va_P D vwCl [(wO6 sv n co sv_keep sv_scaled), (wO0 co n eq co_place), (wO2 n n_nodes n_kind n_pay n_name n_ways n_held n_targets n_weights), (wI g n_kind 0 12 n_fkind), (wI g n_pay 0 12 n_fpay), (wI g n_ways 0 12 n_fways), (wI g n_held 0 12 n_fheld), (wI g n_targets 0 36 n_ftargets), (wI g n_weights 0 36 n_fweights), (wI g co_place 0 12 pcf), (wO1 eq eq_rows eq_right ew), (wJ g eq_right 1 8 fr), (wR g eq_rows 5 8 (fun i => if i < 8 then some (rr i) else none)), (wJ g (rr 0) 1 8 (ct 0)), (wJ g (rr 1) 1 8 (ct 1)), (wJ g (rr 2) 1 8 (ct 2)), (wJ g (rr 3) 1 8 (ct 3)), (wJ g (rr 4) 1 8 (ct 4)), (wJ g (rr 5) 1 8 (ct 5)), (wJ g (rr 6) 1 8 (ct 6)), (wJ g (rr 7) 1 8 (ct 7)), (wI g pl 0 12 plf), (wO10 vs vs_part vsw), (wJ g vs_part 1 12 vsp)] s.heap := hP
  refine W.eq (g2 := entryFrame m ([.ref sv, .ref pl, .int p0, .int p1, .ref vs] : List Value).toArray 8) (by rw [ha]) ?_
  have hl := lv_entry ([.ref sv, .ref pl, .int p0, .int p1, .ref vs]) (n := 8) (Nat.le_of_ble_eq_true rfl)
  rw [lg_entry_eq]
  generalize (lg_sl ([.ref sv, .ref pl, .int p0, .int p1, .ref vs]) ++ List.replicate (8 - (lg_sl ([.ref sv, .ref pl, .int p0, .int p1, .ref vs])).length) Slot.unset).toArray = ls at hl ⊢
  have hl : lv_has ls 8 [(0, .ref sv), (1, .ref pl), (2, .int p0), (3, .int p1), (4, .ref vs)] := hl
  refine lv_aload_n hx hb dX6_findLeft_0 rfl (lv_at hl 0 rfl) ?_
  refine lv_aload_n hx hb dX6_findLeft_1 rfl (lv_at hl 1 rfl) ?_
  have hPc := hP.sub (ws' := [(wO6 sv n co sv_keep sv_scaled), (wO0 co n eq co_place), (wO2 n n_nodes n_kind n_pay n_name n_ways n_held n_targets n_weights), (wI g n_kind 0 12 n_fkind), (wI g n_pay 0 12 n_fpay), (wI g n_ways 0 12 n_fways), (wI g n_held 0 12 n_fheld), (wI g n_targets 0 36 n_ftargets), (wI g n_weights 0 36 n_fweights), (wI g pl 0 12 plf)]) [0, 1, 2, 3, 4, 5, 6, 7, 8, 21] rfl
  refine vp_callSi (va_Run.run (va_runV (As := [.ref pl]) (rest := []) ⟨hx, hb, hml, hown, hts⟩ (c_X6_unavoidable l D g sv pl n co sv_keep sv_scaled eq co_place n_nodes n_kind n_pay n_name n_ways n_held n_targets n_weights n_fkind n_fpay n_fways n_fheld n_ftargets n_fweights plf (tr_w h_n_nodes (by decide) (by decide)) (tr_wa h_n_fkind (by decide) (by decide)) (tr_wa h_n_fways (by decide) (by decide)) (tr_wa h_n_fheld (by decide) (by decide)) (tr_wa h_n_ftargets (by decide) (by decide)) (tr_wa h_plf (by decide) (by decide))) (cwV 1 hts (tz_gV qw_551 qw_552 qw_553 qw_538 qw_554) rfl rfl rfl (by decide +kernel) ⟨Nat.le_of_ble_eq_true rfl, Nat.le_of_ble_eq_true rfl⟩) ⟨tz_blS, va_recv hK hPc (ci := 6) (q0 := 0) rfl rfl, tz_preS hPc hK⟩ rfl rfl hl.1 rfl (lv_room (Nat.le_of_ble_eq_true rfl)) dX6_findLeft_2 ⟨Nat.le_of_ble_eq_true rfl, Nat.le_of_ble_eq_true rfl⟩)) (fun r_73092 hw => ?_)
  refine lv_istore (lv' := [(5, .int r_73092), (0, .ref sv), (1, .ref pl), (2, .int p0), (3, .int p1), (4, .ref vs)]) hx hb dX6_findLeft_5 hl (by decide) rfl (fun ls hl => ?_)
  refine lv_iconst (v := 1) hx hb dX6_findLeft_7 (by decide) ?_
  refine lv_istore (lv' := [(6, .int 1), (5, .int r_73092), (0, .ref sv), (1, .ref pl), (2, .int p0), (3, .int p1), (4, .ref vs)]) hx hb dX6_findLeft_8 hl (by decide) rfl (fun ls hl => ?_)
  refine lv_iconst (v := 0) hx hb dX6_findLeft_10 (by decide) ?_
  refine lv_istore (lv' := [(7, .int 0), (6, .int 1), (5, .int r_73092), (0, .ref sv), (1, .ref pl), (2, .int p0), (3, .int p1), (4, .ref vs)]) hx hb dX6_findLeft_11 hl (by decide) rfl (fun ls hl => ?_)
  have lp_73727 : ∀ (n_73727 : Nat) (ct_73718 : Nat → Nat → Int64) (x_73719 : Int32) (x_73720 : Int32) (f_73721 : Nat → Int32) (x_73722 : Int64) (f_73723 : Nat → Int64) (f_73724 : Nat → Int32) (x_73725 : Int64) (f_73726 : Nat → Int64) (H : Heap) (locs : List Loc) (ls : Array Slot), (0 ≤ (x_73719 : Int32).toInt ∧ (x_73719 : Int32).toInt ≤ 2147483647) → (0 ≤ (x_73720 : Int32).toInt ∧ (x_73720 : Int32).toInt ≤ 1) → (∀ j : Nat, (-1) ≤ (f_73721 j).toInt ∧ (f_73721 j).toInt ≤ 7) → (∀ j : Nat, 0 ≤ (f_73724 j).toInt ∧ (f_73724 j).toInt ≤ 2) → (2147483647 - x_73719.toInt < (n_73727 : Int)) → va_P D vwCl [(wO6 sv n co sv_keep sv_scaled), (wO0 co n eq co_place), (wO2 n n_nodes n_kind n_pay n_name n_ways n_held n_targets n_weights), (wI g n_kind 0 12 n_fkind), (wI g n_pay 0 12 n_fpay), (wI g n_ways 0 12 n_fways), (wI g n_held 0 12 n_fheld), (wI g n_targets 0 36 n_ftargets), (wI g n_weights 0 36 n_fweights), (wI g co_place 0 12 f_73721), (wO1 eq eq_rows eq_right x_73722), (wJ g eq_right 1 8 f_73723), (wR g eq_rows 5 8 (fun i => if i < 8 then some (rr i) else none)), (wJ g (rr 0) 1 8 (ct_73718 0)), (wJ g (rr 1) 1 8 (ct_73718 1)), (wJ g (rr 2) 1 8 (ct_73718 2)), (wJ g (rr 3) 1 8 (ct_73718 3)), (wJ g (rr 4) 1 8 (ct_73718 4)), (wJ g (rr 5) 1 8 (ct_73718 5)), (wJ g (rr 6) 1 8 (ct_73718 6)), (wJ g (rr 7) 1 8 (ct_73718 7)), (wI g pl 0 12 f_73724), (wO10 vs vs_part x_73725), (wJ g vs_part 1 12 f_73726)] H → va_D A [(wO6 sv n co sv_keep sv_scaled), (wO0 co n eq co_place), (wO2 n n_nodes n_kind n_pay n_name n_ways n_held n_targets n_weights), (wI g n_kind 0 12 n_fkind), (wI g n_pay 0 12 n_fpay), (wI g n_ways 0 12 n_fways), (wI g n_held 0 12 n_fheld), (wI g n_targets 0 36 n_ftargets), (wI g n_weights 0 36 n_fweights), (wI g co_place 0 12 f_73721), (wO1 eq eq_rows eq_right x_73722), (wJ g eq_right 1 8 f_73723), (wR g eq_rows 5 8 (fun i => if i < 8 then some (rr i) else none)), (wJ g (rr 0) 1 8 (ct_73718 0)), (wJ g (rr 1) 1 8 (ct_73718 1)), (wJ g (rr 2) 1 8 (ct_73718 2)), (wJ g (rr 3) 1 8 (ct_73718 3)), (wJ g (rr 4) 1 8 (ct_73718 4)), (wJ g (rr 5) 1 8 (ct_73718 5)), (wJ g (rr 6) 1 8 (ct_73718 6)), (wJ g (rr 7) 1 8 (ct_73718 7)), (wI g pl 0 12 f_73724), (wO10 vs vs_part x_73725), (wJ g vs_part 1 12 f_73726)] → va_S A s.heap H locs → lv_has ls 8 [(7, .int x_73719), (6, .int x_73720), (5, .int r_73092), (0, .ref sv), (1, .ref pl), (2, .int p0), (3, .int p1), (4, .ref vs)] → W p l e (headSpec (.code yX6_findLeft cX6_findLeft 8 none :: wsL_law) ({ frames := 4, cells := 0, slots := 0, locals := 105 })).room s m args below meth c H locs 0 0 (MQ below (va_Qv (fun (_ : Unit) => True) (fun _ t => ∃ opc : Nat → Int32, ∃ oew : Int64, ∃ ofr : Nat → Int64, ∃ opl : Nat → Int32, ∃ ovw : Int64, ∃ ovp : Nat → Int64, ∃ oct : Nat → Nat → Int64, (∀ j : Nat, (-1) ≤ (opc j).toInt ∧ (opc j).toInt ≤ 7) ∧ (∀ j : Nat, 0 ≤ (opl j).toInt ∧ (opl j).toInt ≤ 2) ∧ va_P D vwCl [(wO6 sv n co sv_keep sv_scaled), (wO0 co n eq co_place), (wO2 n n_nodes n_kind n_pay n_name n_ways n_held n_targets n_weights), (wI g n_kind 0 12 n_fkind), (wI g n_pay 0 12 n_fpay), (wI g n_ways 0 12 n_fways), (wI g n_held 0 12 n_fheld), (wI g n_targets 0 36 n_ftargets), (wI g n_weights 0 36 n_fweights), (wI g co_place 0 12 opc), (wO1 eq eq_rows eq_right oew), (wJ g eq_right 1 8 ofr), (wR g eq_rows 5 8 (fun i => if i < 8 then some (rr i) else none)), (wJ g (rr 0) 1 8 (oct 0)), (wJ g (rr 1) 1 8 (oct 1)), (wJ g (rr 2) 1 8 (oct 2)), (wJ g (rr 3) 1 8 (oct 3)), (wJ g (rr 4) 1 8 (oct 4)), (wJ g (rr 5) 1 8 (oct 5)), (wJ g (rr 6) 1 8 (oct 6)), (wJ g (rr 7) 1 8 (oct 7)), (wI g pl 0 12 opl), (wO10 vs vs_part ovw), (wJ g vs_part 1 12 ovp)] t.heap ∧ va_D A [(wO6 sv n co sv_keep sv_scaled), (wO0 co n eq co_place), (wO2 n n_nodes n_kind n_pay n_name n_ways n_held n_targets n_weights), (wI g n_kind 0 12 n_fkind), (wI g n_pay 0 12 n_fpay), (wI g n_ways 0 12 n_fways), (wI g n_held 0 12 n_fheld), (wI g n_targets 0 36 n_ftargets), (wI g n_weights 0 36 n_fweights), (wI g co_place 0 12 opc), (wO1 eq eq_rows eq_right oew), (wJ g eq_right 1 8 ofr), (wR g eq_rows 5 8 (fun i => if i < 8 then some (rr i) else none)), (wJ g (rr 0) 1 8 (oct 0)), (wJ g (rr 1) 1 8 (oct 1)), (wJ g (rr 2) 1 8 (oct 2)), (wJ g (rr 3) 1 8 (oct 3)), (wJ g (rr 4) 1 8 (oct 4)), (wJ g (rr 5) 1 8 (oct 5)), (wJ g (rr 6) 1 8 (oct 6)), (wJ g (rr 7) 1 8 (oct 7)), (wI g pl 0 12 opl), (wO10 vs vs_part ovw), (wJ g vs_part 1 12 ovp)]) A) args s 0 0 A) (F0 m 13 ls []) := by
    intro n_73727
    induction n_73727 with
    | zero =>
      intro ct_73718 x_73719 x_73720 f_73721 x_73722 f_73723 f_73724 x_73725 f_73726 H locs ls h_x_73719 h_x_73720 h_f_73721 h_f_73724 hm_73727 hP hD hS hl
      exfalso; omega
    | succ n_73727 ih_73727 =>
      intro ct_73718 x_73719 x_73720 f_73721 x_73722 f_73723 f_73724 x_73725 f_73726 H locs ls h_x_73719 h_x_73720 h_f_73721 h_f_73724 hm_73727 hP hD hS hl
      refine lv_iload hx hb dX6_findLeft_13 (lv_at hl 1 rfl) ?_
      refine lv_if_eq (tgt := 66) hx hb dX6_findLeft_15 (by decide) (fun c_73728 => ?_) (fun c_73728 => ?_)
      · skip
        have c_73728_i : (x_73720 : Int32).toInt = (0 : Int32).toInt := congrArg Int32.toInt c_73728
        have h_73729 : 0 ≤ (x_73720 : Int32).toInt ∧ (x_73720 : Int32).toInt ≤ 0 := nr_eq_l h_x_73720 (⟨by decide, by decide⟩ : 0 ≤ (0 : Int32).toInt ∧ (0 : Int32).toInt ≤ 0) c_73728_i (by decide) (by decide)
        have hP9 := hP.sub (ws' := [(wO6 sv n co sv_keep sv_scaled), (wO0 co n eq co_place), (wO2 n n_nodes n_kind n_pay n_name n_ways n_held n_targets n_weights), (wI g n_kind 0 12 n_fkind), (wI g n_pay 0 12 n_fpay), (wI g n_ways 0 12 n_fways), (wI g n_held 0 12 n_fheld), (wI g n_targets 0 36 n_ftargets), (wI g n_weights 0 36 n_fweights), (wI g co_place 0 12 f_73721), (wO1 eq eq_rows eq_right x_73722), (wJ g eq_right 1 8 f_73723), (wR g eq_rows 5 8 (fun i => if i < 8 then some (rr i) else none)), (wJ g (rr 0) 1 8 (ct_73718 0)), (wJ g (rr 1) 1 8 (ct_73718 1)), (wJ g (rr 2) 1 8 (ct_73718 2)), (wJ g (rr 3) 1 8 (ct_73718 3)), (wJ g (rr 4) 1 8 (ct_73718 4)), (wJ g (rr 5) 1 8 (ct_73718 5)), (wJ g (rr 6) 1 8 (ct_73718 6)), (wJ g (rr 7) 1 8 (ct_73718 7)), (wI g pl 0 12 f_73724), (wO10 vs vs_part x_73725), (wJ g vs_part 1 12 f_73726)]) [0, 1, 2, 3, 4, 5, 6, 7, 8, 9, 10, 11, 12, 13, 14, 15, 16, 17, 18, 19, 20, 21, 22, 23] rfl
        have hD9 := hD.sub (ws' := [(wO6 sv n co sv_keep sv_scaled), (wO0 co n eq co_place), (wO2 n n_nodes n_kind n_pay n_name n_ways n_held n_targets n_weights), (wI g n_kind 0 12 n_fkind), (wI g n_pay 0 12 n_fpay), (wI g n_ways 0 12 n_fways), (wI g n_held 0 12 n_fheld), (wI g n_targets 0 36 n_ftargets), (wI g n_weights 0 36 n_fweights), (wI g co_place 0 12 f_73721), (wO1 eq eq_rows eq_right x_73722), (wJ g eq_right 1 8 f_73723), (wR g eq_rows 5 8 (fun i => if i < 8 then some (rr i) else none)), (wJ g (rr 0) 1 8 (ct_73718 0)), (wJ g (rr 1) 1 8 (ct_73718 1)), (wJ g (rr 2) 1 8 (ct_73718 2)), (wJ g (rr 3) 1 8 (ct_73718 3)), (wJ g (rr 4) 1 8 (ct_73718 4)), (wJ g (rr 5) 1 8 (ct_73718 5)), (wJ g (rr 6) 1 8 (ct_73718 6)), (wJ g (rr 7) 1 8 (ct_73718 7)), (wI g pl 0 12 f_73724), (wO10 vs vs_part x_73725), (wJ g vs_part 1 12 f_73726)]) [0, 1, 2, 3, 4, 5, 6, 7, 8, 9, 10, 11, 12, 13, 14, 15, 16, 17, 18, 19, 20, 21, 22, 23] (by decide) rfl
        exact W.vret hx hb hr (fun t ht hW => ⟨⟨(), rfl, trivial, f_73721, x_73722, f_73723, f_73724, x_73725, f_73726, ct_73718, (tr_wa h_f_73721 (by decide) (by decide)), (tr_wa h_f_73724 (by decide) (by decide)), by rw [ht]; exact hP9, hD9⟩, hS.F ht⟩) hS.2.2 dX6_findLeft_66
      · skip
        have c_73728_i : ¬ (x_73720 : Int32).toInt = (0 : Int32).toInt := (fun q => c_73728 (Int32.toInt_inj.mp q))
        have h_73730 : 1 ≤ (x_73720 : Int32).toInt ∧ (x_73720 : Int32).toInt ≤ 1 := nr_ne_l h_x_73720 (⟨by decide, by decide⟩ : 0 ≤ (0 : Int32).toInt ∧ (0 : Int32).toInt ≤ 0) c_73728_i (by decide) (by decide)
        refine lv_iload hx hb dX6_findLeft_18 (lv_at hl 0 rfl) ?_
        refine lv_sipush (v := 6561) hx hb dX6_findLeft_20 (by decide) ?_
        refine lv_icmp_ge (tgt := 66) hx hb dX6_findLeft_23 (by decide) (fun c_73731 => ?_) (fun c_73731 => ?_)
        · skip
          have c_73731_i := Int32.le_iff_toInt_le.mp c_73731
          have h_73732 : 6561 ≤ (x_73719 : Int32).toInt ∧ (x_73719 : Int32).toInt ≤ 2147483647 := nr_le_r (⟨by decide, by decide⟩ : 6561 ≤ (6561 : Int32).toInt ∧ (6561 : Int32).toInt ≤ 6561) h_x_73719 c_73731_i (by decide) (by decide)
          have hP9 := hP.sub (ws' := [(wO6 sv n co sv_keep sv_scaled), (wO0 co n eq co_place), (wO2 n n_nodes n_kind n_pay n_name n_ways n_held n_targets n_weights), (wI g n_kind 0 12 n_fkind), (wI g n_pay 0 12 n_fpay), (wI g n_ways 0 12 n_fways), (wI g n_held 0 12 n_fheld), (wI g n_targets 0 36 n_ftargets), (wI g n_weights 0 36 n_fweights), (wI g co_place 0 12 f_73721), (wO1 eq eq_rows eq_right x_73722), (wJ g eq_right 1 8 f_73723), (wR g eq_rows 5 8 (fun i => if i < 8 then some (rr i) else none)), (wJ g (rr 0) 1 8 (ct_73718 0)), (wJ g (rr 1) 1 8 (ct_73718 1)), (wJ g (rr 2) 1 8 (ct_73718 2)), (wJ g (rr 3) 1 8 (ct_73718 3)), (wJ g (rr 4) 1 8 (ct_73718 4)), (wJ g (rr 5) 1 8 (ct_73718 5)), (wJ g (rr 6) 1 8 (ct_73718 6)), (wJ g (rr 7) 1 8 (ct_73718 7)), (wI g pl 0 12 f_73724), (wO10 vs vs_part x_73725), (wJ g vs_part 1 12 f_73726)]) [0, 1, 2, 3, 4, 5, 6, 7, 8, 9, 10, 11, 12, 13, 14, 15, 16, 17, 18, 19, 20, 21, 22, 23] rfl
          have hD9 := hD.sub (ws' := [(wO6 sv n co sv_keep sv_scaled), (wO0 co n eq co_place), (wO2 n n_nodes n_kind n_pay n_name n_ways n_held n_targets n_weights), (wI g n_kind 0 12 n_fkind), (wI g n_pay 0 12 n_fpay), (wI g n_ways 0 12 n_fways), (wI g n_held 0 12 n_fheld), (wI g n_targets 0 36 n_ftargets), (wI g n_weights 0 36 n_fweights), (wI g co_place 0 12 f_73721), (wO1 eq eq_rows eq_right x_73722), (wJ g eq_right 1 8 f_73723), (wR g eq_rows 5 8 (fun i => if i < 8 then some (rr i) else none)), (wJ g (rr 0) 1 8 (ct_73718 0)), (wJ g (rr 1) 1 8 (ct_73718 1)), (wJ g (rr 2) 1 8 (ct_73718 2)), (wJ g (rr 3) 1 8 (ct_73718 3)), (wJ g (rr 4) 1 8 (ct_73718 4)), (wJ g (rr 5) 1 8 (ct_73718 5)), (wJ g (rr 6) 1 8 (ct_73718 6)), (wJ g (rr 7) 1 8 (ct_73718 7)), (wI g pl 0 12 f_73724), (wO10 vs vs_part x_73725), (wJ g vs_part 1 12 f_73726)]) [0, 1, 2, 3, 4, 5, 6, 7, 8, 9, 10, 11, 12, 13, 14, 15, 16, 17, 18, 19, 20, 21, 22, 23] (by decide) rfl
          exact W.vret hx hb hr (fun t ht hW => ⟨⟨(), rfl, trivial, f_73721, x_73722, f_73723, f_73724, x_73725, f_73726, ct_73718, (tr_wa h_f_73721 (by decide) (by decide)), (tr_wa h_f_73724 (by decide) (by decide)), by rw [ht]; exact hP9, hD9⟩, hS.F ht⟩) hS.2.2 dX6_findLeft_66
        · skip
          have c_73731_i := Int32.lt_iff_toInt_lt.mp (Int32.not_le.mp c_73731)
          have h_73733 : 0 ≤ (x_73719 : Int32).toInt ∧ (x_73719 : Int32).toInt ≤ 6560 := nr_lt_l h_x_73719 (⟨by decide, by decide⟩ : 6561 ≤ (6561 : Int32).toInt ∧ (6561 : Int32).toInt ≤ 6561) c_73731_i (by decide) (by decide)
          refine lv_aload_n hx hb dX6_findLeft_26 rfl (lv_at hl 3 rfl) ?_
          refine va_get (D := D) (ci := 6) (v := .ref co) (C := RX6) (T := TX6) (N := 4) hx hb hts inlX6 hown hK hP 0 rfl rfl 1 (by decide) (hts (Cond.fieldLink RX6 28 "ChanceRings$Solver" "course" "LChanceRings$Course;") qw_545) (fun _ h9 => h9) rfl dX6_findLeft_27 ?_
          refine lv_aload_n hx hb dX6_findLeft_30 rfl (lv_at hl 4 rfl) ?_
          refine lv_iload hx hb dX6_findLeft_31 (lv_at hl 2 rfl) ?_
          refine lv_iload_n hx hb dX6_findLeft_33 rfl (lv_at hl 5 rfl) ?_
          refine lv_iload_n hx hb dX6_findLeft_34 rfl (lv_at hl 6 rfl) ?_
          refine lv_aload hx hb dX6_findLeft_35 (lv_at hl 7 rfl) ?_
          have hPc := hP.sub (ws' := [(wO0 co n eq co_place), (wO2 n n_nodes n_kind n_pay n_name n_ways n_held n_targets n_weights), (wI g n_kind 0 12 n_fkind), (wI g n_pay 0 12 n_fpay), (wI g n_ways 0 12 n_fways), (wI g n_held 0 12 n_fheld), (wI g n_targets 0 36 n_ftargets), (wI g n_weights 0 36 n_fweights), (wI g co_place 0 12 f_73721), (wO1 eq eq_rows eq_right x_73722), (wJ g eq_right 1 8 f_73723), (wR g eq_rows 5 8 (fun i => if i < 8 then some (rr i) else none)), (wJ g (rr 0) 1 8 (ct_73718 0)), (wJ g (rr 1) 1 8 (ct_73718 1)), (wJ g (rr 2) 1 8 (ct_73718 2)), (wJ g (rr 3) 1 8 (ct_73718 3)), (wJ g (rr 4) 1 8 (ct_73718 4)), (wJ g (rr 5) 1 8 (ct_73718 5)), (wJ g (rr 6) 1 8 (ct_73718 6)), (wJ g (rr 7) 1 8 (ct_73718 7)), (wI g pl 0 12 f_73724), (wO10 vs vs_part x_73725), (wJ g vs_part 1 12 f_73726)]) [1, 2, 3, 4, 5, 6, 7, 8, 9, 10, 11, 12, 13, 14, 15, 16, 17, 18, 19, 20, 21, 22, 23] rfl
          have hDc := hD.sub (ws' := [(wO0 co n eq co_place), (wO2 n n_nodes n_kind n_pay n_name n_ways n_held n_targets n_weights), (wI g n_kind 0 12 n_fkind), (wI g n_pay 0 12 n_fpay), (wI g n_ways 0 12 n_fways), (wI g n_held 0 12 n_fheld), (wI g n_targets 0 36 n_ftargets), (wI g n_weights 0 36 n_fweights), (wI g co_place 0 12 f_73721), (wO1 eq eq_rows eq_right x_73722), (wJ g eq_right 1 8 f_73723), (wR g eq_rows 5 8 (fun i => if i < 8 then some (rr i) else none)), (wJ g (rr 0) 1 8 (ct_73718 0)), (wJ g (rr 1) 1 8 (ct_73718 1)), (wJ g (rr 2) 1 8 (ct_73718 2)), (wJ g (rr 3) 1 8 (ct_73718 3)), (wJ g (rr 4) 1 8 (ct_73718 4)), (wJ g (rr 5) 1 8 (ct_73718 5)), (wJ g (rr 6) 1 8 (ct_73718 6)), (wJ g (rr 7) 1 8 (ct_73718 7)), (wI g pl 0 12 f_73724), (wO10 vs vs_part x_73725), (wJ g vs_part 1 12 f_73726)]) [1, 2, 3, 4, 5, 6, 7, 8, 9, 10, 11, 12, 13, 14, 15, 16, 17, 18, 19, 20, 21, 22, 23] (by decide) rfl
          have hFc := va_free (wc := [(wO0 co n eq co_place), (wO2 n n_nodes n_kind n_pay n_name n_ways n_held n_targets n_weights), (wI g n_kind 0 12 n_fkind), (wI g n_pay 0 12 n_fpay), (wI g n_ways 0 12 n_fways), (wI g n_held 0 12 n_fheld), (wI g n_targets 0 36 n_ftargets), (wI g n_weights 0 36 n_fweights), (wI g co_place 0 12 f_73721), (wO1 eq eq_rows eq_right x_73722), (wJ g eq_right 1 8 f_73723), (wR g eq_rows 5 8 (fun i => if i < 8 then some (rr i) else none)), (wJ g (rr 0) 1 8 (ct_73718 0)), (wJ g (rr 1) 1 8 (ct_73718 1)), (wJ g (rr 2) 1 8 (ct_73718 2)), (wJ g (rr 3) 1 8 (ct_73718 3)), (wJ g (rr 4) 1 8 (ct_73718 4)), (wJ g (rr 5) 1 8 (ct_73718 5)), (wJ g (rr 6) 1 8 (ct_73718 6)), (wJ g (rr 7) 1 8 (ct_73718 7)), (wI g pl 0 12 f_73724), (wO10 vs vs_part x_73725), (wJ g vs_part 1 12 f_73726)]) hD hS hA [1, 2, 3, 4, 5, 6, 7, 8, 9, 10, 11, 12, 13, 14, 15, 16, 17, 18, 19, 20, 21, 22, 23] rfl
          refine va_callv (va_runV (As := [.ref pl, .int r_73092, .int p0, .int p1, .ref vs]) (rest := []) ⟨hx, hb, hml, hown, hts⟩ (c_X0_expectPay l D g H.size co pl r_73092 p0 p1 vs n eq co_place n_nodes n_kind n_pay n_name n_ways n_held n_targets n_weights n_fkind n_fpay n_fways n_fheld n_ftargets n_fweights f_73721 eq_rows eq_right x_73722 f_73723 rr ct_73718 f_73724 vs_part x_73725 f_73726 (tr_w h_n_nodes (by decide) (by decide)) (tr_wa h_n_fkind (by decide) (by decide)) (tr_wa h_n_fways (by decide) (by decide)) (tr_wa h_n_fheld (by decide) (by decide)) (tr_wa h_n_ftargets (by decide) (by decide)) (tr_wa h_f_73721 (by decide) (by decide)) (tr_wa h_f_73724 (by decide) (by decide))) (cwV 5 hts (tz_gV qw_555 qw_556 qw_557 qw_470 qw_558) rfl rfl rfl (by decide +kernel) ⟨Nat.le_of_ble_eq_true rfl, Nat.le_of_ble_eq_true rfl⟩) ⟨tz_blQ, va_recv hK hPc (ci := 0) (q0 := 0) rfl rfl, tz_preQ hPc hK hDc⟩ rfl rfl hl.1 rfl (lv_room (Nat.le_of_ble_eq_true rfl)) dX6_findLeft_37 ⟨Nat.le_of_ble_eq_true rfl, Nat.le_of_ble_eq_true rfl⟩) hS (fun q _ h => hFc q h) hFc (fun u t H1 locs ht hvm hw hB hz1 hk1 hS => ?_)
          obtain ⟨opc_73735, oew_73736, ofr_73737, ovw_73738, ovp_73739, oct_73740, hf_73741, hP1, hD1⟩ := hB
          rw [ht] at hP1
          obtain ⟨hP, hD⟩ := va_join (wr := [(wO6 sv n co sv_keep sv_scaled)]) (w1 := [(wO0 co n eq co_place), (wO2 n n_nodes n_kind n_pay n_name n_ways n_held n_targets n_weights), (wI g n_kind 0 12 n_fkind), (wI g n_pay 0 12 n_fpay), (wI g n_ways 0 12 n_fways), (wI g n_held 0 12 n_fheld), (wI g n_targets 0 36 n_ftargets), (wI g n_weights 0 36 n_fweights), (wI g co_place 0 12 opc_73735), (wO1 eq eq_rows eq_right oew_73736), (wJ g eq_right 1 8 ofr_73737), (wR g eq_rows 5 8 (fun i => if i < 8 then some (rr i) else none)), (wJ g (rr 0) 1 8 (oct_73740 0)), (wJ g (rr 1) 1 8 (oct_73740 1)), (wJ g (rr 2) 1 8 (oct_73740 2)), (wJ g (rr 3) 1 8 (oct_73740 3)), (wJ g (rr 4) 1 8 (oct_73740 4)), (wJ g (rr 5) 1 8 (oct_73740 5)), (wJ g (rr 6) 1 8 (oct_73740 6)), (wJ g (rr 7) 1 8 (oct_73740 7)), (wI g pl 0 12 f_73724), (wO10 vs vs_part ovw_73738), (wJ g vs_part 1 12 ovp_73739)]) hP hD [1, 2, 3, 4, 5, 6, 7, 8, 9, 10, 11, 12, 13, 14, 15, 16, 17, 18, 19, 20, 21, 22, 23] [0] rfl rfl (by decide) (by decide) hk1 hFc hP1 hD1
          generalize H1 = H at hP hS ⊢
          have hP : va_P D vwCl [(wO6 sv n co sv_keep sv_scaled), (wO0 co n eq co_place), (wO2 n n_nodes n_kind n_pay n_name n_ways n_held n_targets n_weights), (wI g n_kind 0 12 n_fkind), (wI g n_pay 0 12 n_fpay), (wI g n_ways 0 12 n_fways), (wI g n_held 0 12 n_fheld), (wI g n_targets 0 36 n_ftargets), (wI g n_weights 0 36 n_fweights), (wI g co_place 0 12 opc_73735), (wO1 eq eq_rows eq_right oew_73736), (wJ g eq_right 1 8 ofr_73737), (wR g eq_rows 5 8 (fun i => if i < 8 then some (rr i) else none)), (wJ g (rr 0) 1 8 (oct_73740 0)), (wJ g (rr 1) 1 8 (oct_73740 1)), (wJ g (rr 2) 1 8 (oct_73740 2)), (wJ g (rr 3) 1 8 (oct_73740 3)), (wJ g (rr 4) 1 8 (oct_73740 4)), (wJ g (rr 5) 1 8 (oct_73740 5)), (wJ g (rr 6) 1 8 (oct_73740 6)), (wJ g (rr 7) 1 8 (oct_73740 7)), (wI g pl 0 12 f_73724), (wO10 vs vs_part ovw_73738), (wJ g vs_part 1 12 ovp_73739)] H := hP
          have hD : va_D A [(wO6 sv n co sv_keep sv_scaled), (wO0 co n eq co_place), (wO2 n n_nodes n_kind n_pay n_name n_ways n_held n_targets n_weights), (wI g n_kind 0 12 n_fkind), (wI g n_pay 0 12 n_fpay), (wI g n_ways 0 12 n_fways), (wI g n_held 0 12 n_fheld), (wI g n_targets 0 36 n_ftargets), (wI g n_weights 0 36 n_fweights), (wI g co_place 0 12 opc_73735), (wO1 eq eq_rows eq_right oew_73736), (wJ g eq_right 1 8 ofr_73737), (wR g eq_rows 5 8 (fun i => if i < 8 then some (rr i) else none)), (wJ g (rr 0) 1 8 (oct_73740 0)), (wJ g (rr 1) 1 8 (oct_73740 1)), (wJ g (rr 2) 1 8 (oct_73740 2)), (wJ g (rr 3) 1 8 (oct_73740 3)), (wJ g (rr 4) 1 8 (oct_73740 4)), (wJ g (rr 5) 1 8 (oct_73740 5)), (wJ g (rr 6) 1 8 (oct_73740 6)), (wJ g (rr 7) 1 8 (oct_73740 7)), (wI g pl 0 12 f_73724), (wO10 vs vs_part ovw_73738), (wJ g vs_part 1 12 ovp_73739)] := hD
          refine lv_aload_n hx hb dX6_findLeft_40 rfl (lv_at hl 3 rfl) ?_
          refine lv_iconst (v := 2) hx hb dX6_findLeft_41 (by decide) ?_
          refine lv_aload_n hx hb dX6_findLeft_42 rfl (lv_at hl 4 rfl) ?_
          refine lv_aload hx hb dX6_findLeft_43 (lv_at hl 7 rfl) ?_
          refine lv_iload hx hb dX6_findLeft_45 (lv_at hl 2 rfl) ?_
          have hPc := hP.sub (ws' := [(wO6 sv n co sv_keep sv_scaled), (wO2 n n_nodes n_kind n_pay n_name n_ways n_held n_targets n_weights), (wI g n_kind 0 12 n_fkind), (wI g n_ways 0 12 n_fways), (wI g n_held 0 12 n_fheld), (wI g n_targets 0 36 n_ftargets), (wO10 vs vs_part ovw_73738), (wJ g vs_part 1 12 ovp_73739), (wI g pl 0 12 f_73724)]) [0, 2, 3, 5, 6, 7, 22, 23, 21] rfl
          have hDc := hD.sub (ws' := [(wO6 sv n co sv_keep sv_scaled), (wO2 n n_nodes n_kind n_pay n_name n_ways n_held n_targets n_weights), (wI g n_kind 0 12 n_fkind), (wI g n_ways 0 12 n_fways), (wI g n_held 0 12 n_fheld), (wI g n_targets 0 36 n_ftargets), (wO10 vs vs_part ovw_73738), (wJ g vs_part 1 12 ovp_73739), (wI g pl 0 12 f_73724)]) [0, 2, 3, 5, 6, 7, 22, 23, 21] (by decide) rfl
          have hFc := va_free (wc := [(wO6 sv n co sv_keep sv_scaled), (wO2 n n_nodes n_kind n_pay n_name n_ways n_held n_targets n_weights), (wI g n_kind 0 12 n_fkind), (wI g n_ways 0 12 n_fways), (wI g n_held 0 12 n_fheld), (wI g n_targets 0 36 n_ftargets), (wO10 vs vs_part ovw_73738), (wJ g vs_part 1 12 ovp_73739), (wI g pl 0 12 f_73724)]) hD hS hA [0, 2, 3, 5, 6, 7, 22, 23, 21] rfl
          refine va_calli (va_runV (As := [.int 2, .ref pl, .ref vs, .int r_73092]) (rest := []) ⟨hx, hb, hml, hown, hts⟩ (c_X6_turnOpen l D g H.size sv 2 pl vs r_73092 n co sv_keep sv_scaled n_nodes n_kind n_pay n_name n_ways n_held n_targets n_weights n_fkind n_fways n_fheld n_ftargets vs_part ovw_73738 ovp_73739 f_73724 (tr_w h_n_nodes (by decide) (by decide)) (tr_wa h_n_fkind (by decide) (by decide)) (tr_wa h_n_fways (by decide) (by decide)) (tr_wa h_n_fheld (by decide) (by decide)) (tr_wa h_n_ftargets (by decide) (by decide)) (tr_wa h_f_73724 (by decide) (by decide))) (cwV 4 hts (tz_gV qw_540 qw_541 qw_542 qw_538 qw_543) rfl rfl rfl (by decide +kernel) ⟨Nat.le_of_ble_eq_true rfl, Nat.le_of_ble_eq_true rfl⟩) ⟨tz_blQ, va_recv hK hPc (ci := 6) (q0 := 0) rfl rfl, tz_preQ hPc hK hDc⟩ rfl rfl hl.1 rfl (lv_room (Nat.le_of_ble_eq_true rfl)) dX6_findLeft_47 ⟨Nat.le_of_ble_eq_true rfl, Nat.le_of_ble_eq_true rfl⟩) hS (fun q _ h => hFc q h) hFc (fun r_73742 u t H1 locs ht hvm hw hB hz1 hk1 hS => ?_)
          obtain ⟨opl_73743, hf_73744, hP1, hD1⟩ := hB
          rw [ht] at hP1
          obtain ⟨hP, hD⟩ := va_join (wr := [(wO0 co n eq co_place), (wI g n_pay 0 12 n_fpay), (wI g n_weights 0 36 n_fweights), (wI g co_place 0 12 opc_73735), (wO1 eq eq_rows eq_right oew_73736), (wJ g eq_right 1 8 ofr_73737), (wR g eq_rows 5 8 (fun i => if i < 8 then some (rr i) else none)), (wJ g (rr 0) 1 8 (oct_73740 0)), (wJ g (rr 1) 1 8 (oct_73740 1)), (wJ g (rr 2) 1 8 (oct_73740 2)), (wJ g (rr 3) 1 8 (oct_73740 3)), (wJ g (rr 4) 1 8 (oct_73740 4)), (wJ g (rr 5) 1 8 (oct_73740 5)), (wJ g (rr 6) 1 8 (oct_73740 6)), (wJ g (rr 7) 1 8 (oct_73740 7))]) (w1 := [(wO6 sv n co sv_keep sv_scaled), (wO2 n n_nodes n_kind n_pay n_name n_ways n_held n_targets n_weights), (wI g n_kind 0 12 n_fkind), (wI g n_ways 0 12 n_fways), (wI g n_held 0 12 n_fheld), (wI g n_targets 0 36 n_ftargets), (wO10 vs vs_part ovw_73738), (wJ g vs_part 1 12 ovp_73739), (wI g pl 0 12 opl_73743)]) hP hD [0, 2, 3, 5, 6, 7, 22, 23, 21] [1, 4, 8, 9, 10, 11, 12, 13, 14, 15, 16, 17, 18, 19, 20] rfl rfl (by decide) (by decide) hk1 hFc hP1 hD1
          generalize H1 = H at hP hS ⊢
          have hP : va_P D vwCl [(wO0 co n eq co_place), (wI g n_pay 0 12 n_fpay), (wI g n_weights 0 36 n_fweights), (wI g co_place 0 12 opc_73735), (wO1 eq eq_rows eq_right oew_73736), (wJ g eq_right 1 8 ofr_73737), (wR g eq_rows 5 8 (fun i => if i < 8 then some (rr i) else none)), (wJ g (rr 0) 1 8 (oct_73740 0)), (wJ g (rr 1) 1 8 (oct_73740 1)), (wJ g (rr 2) 1 8 (oct_73740 2)), (wJ g (rr 3) 1 8 (oct_73740 3)), (wJ g (rr 4) 1 8 (oct_73740 4)), (wJ g (rr 5) 1 8 (oct_73740 5)), (wJ g (rr 6) 1 8 (oct_73740 6)), (wJ g (rr 7) 1 8 (oct_73740 7)), (wO6 sv n co sv_keep sv_scaled), (wO2 n n_nodes n_kind n_pay n_name n_ways n_held n_targets n_weights), (wI g n_kind 0 12 n_fkind), (wI g n_ways 0 12 n_fways), (wI g n_held 0 12 n_fheld), (wI g n_targets 0 36 n_ftargets), (wO10 vs vs_part ovw_73738), (wJ g vs_part 1 12 ovp_73739), (wI g pl 0 12 opl_73743)] H := hP
          have hD : va_D A [(wO0 co n eq co_place), (wI g n_pay 0 12 n_fpay), (wI g n_weights 0 36 n_fweights), (wI g co_place 0 12 opc_73735), (wO1 eq eq_rows eq_right oew_73736), (wJ g eq_right 1 8 ofr_73737), (wR g eq_rows 5 8 (fun i => if i < 8 then some (rr i) else none)), (wJ g (rr 0) 1 8 (oct_73740 0)), (wJ g (rr 1) 1 8 (oct_73740 1)), (wJ g (rr 2) 1 8 (oct_73740 2)), (wJ g (rr 3) 1 8 (oct_73740 3)), (wJ g (rr 4) 1 8 (oct_73740 4)), (wJ g (rr 5) 1 8 (oct_73740 5)), (wJ g (rr 6) 1 8 (oct_73740 6)), (wJ g (rr 7) 1 8 (oct_73740 7)), (wO6 sv n co sv_keep sv_scaled), (wO2 n n_nodes n_kind n_pay n_name n_ways n_held n_targets n_weights), (wI g n_kind 0 12 n_fkind), (wI g n_ways 0 12 n_fways), (wI g n_held 0 12 n_fheld), (wI g n_targets 0 36 n_ftargets), (wO10 vs vs_part ovw_73738), (wJ g vs_part 1 12 ovp_73739), (wI g pl 0 12 opl_73743)] := hD
          refine lv_if_le (tgt := 57) hx hb dX6_findLeft_50 (by decide) (fun c_73745 => ?_) (fun c_73745 => ?_)
          · skip
            have c_73745_i := Int32.le_iff_toInt_le.mp c_73745
            have h_73746 : (-2147483648) ≤ (r_73742 : Int32).toInt ∧ (r_73742 : Int32).toInt ≤ 0 := nr_le_l (tr_any r_73742) (⟨by decide, by decide⟩ : 0 ≤ (0 : Int32).toInt ∧ (0 : Int32).toInt ≤ 0) c_73745_i (by decide) (by decide)
            refine lv_iconst (v := 0) hx hb dX6_findLeft_57 (by decide) ?_
            refine lv_istore (lv' := [(6, .int 0), (7, .int x_73719), (5, .int r_73092), (0, .ref sv), (1, .ref pl), (2, .int p0), (3, .int p1), (4, .ref vs)]) hx hb dX6_findLeft_58 hl (by decide) rfl (fun ls hl => ?_)
            obtain ⟨v_73748, v_73748_e⟩ : ∃ y : Int32, y = x_73719 + Int32.ofInt 1 := ⟨_, rfl⟩
            have h_v_73748 : 1 ≤ (v_73748 : Int32).toInt ∧ (v_73748 : Int32).toInt ≤ 6561 := by rw [v_73748_e]; exact tr_add h_73733 (⟨by decide, by decide⟩ : 1 ≤ (Int32.ofInt 1 : Int32).toInt ∧ (Int32.ofInt 1 : Int32).toInt ≤ 1) (by decide) (by decide) (by decide) (by decide)
            have q_v_73748 : v_73748.toInt = x_73719.toInt + 1 := by rw [v_73748_e]; exact tr_addE h_73733 (⟨by decide, by decide⟩ : 1 ≤ (Int32.ofInt 1 : Int32).toInt ∧ (Int32.ofInt 1 : Int32).toInt ≤ 1) (by decide) (by decide)
            refine lv_iinc (v := v_73748) (lv' := [(7, .int v_73748), (6, .int 0), (5, .int r_73092), (0, .ref sv), (1, .ref pl), (2, .int p0), (3, .int p1), (4, .ref vs)]) hx hb dX6_findLeft_60 hl (k := 1) rfl v_73748_e.symm (by decide) rfl (fun ls hl => ?_)
            refine lv_goto (tgt := 13) hx hb dX6_findLeft_63 (by decide) ?_
            exact ih_73727 oct_73740 v_73748 0 opc_73735 oew_73736 ofr_73737 opl_73743 ovw_73738 ovp_73739 H _ ls (tr_w h_v_73748 (by decide) (by decide)) (⟨by decide, by decide⟩ : 0 ≤ (0 : Int32).toInt ∧ (0 : Int32).toInt ≤ 1) (tr_wa hf_73741 (by decide) (by decide)) (tr_wa hf_73744 (by decide) (by decide)) (by (first | (clear h_x_73720 h_f_73721 h_f_73724 c_73728_i h_73730 c_73745_i h_73746; omega) | omega)) (hP.sub [15, 0, 16, 17, 1, 18, 19, 20, 2, 3, 4, 5, 6, 7, 8, 9, 10, 11, 12, 13, 14, 23, 21, 22] rfl) (hD.sub [15, 0, 16, 17, 1, 18, 19, 20, 2, 3, 4, 5, 6, 7, 8, 9, 10, 11, 12, 13, 14, 23, 21, 22] (by decide) rfl) hS (lv_sub hl [0, 1, 2, 3, 4, 5, 6, 7] rfl)
          · skip
            have c_73745_i := Int32.lt_iff_toInt_lt.mp (Int32.not_le.mp c_73745)
            have h_73747 : 1 ≤ (r_73742 : Int32).toInt ∧ (r_73742 : Int32).toInt ≤ 2147483647 := nr_lt_r (⟨by decide, by decide⟩ : 0 ≤ (0 : Int32).toInt ∧ (0 : Int32).toInt ≤ 0) (tr_any r_73742) c_73745_i (by decide) (by decide)
            refine lv_iconst (v := 1) hx hb dX6_findLeft_53 (by decide) ?_
            refine lv_goto (tgt := 58) hx hb dX6_findLeft_54 (by decide) ?_
            refine lv_istore (lv' := [(6, .int 1), (7, .int x_73719), (5, .int r_73092), (0, .ref sv), (1, .ref pl), (2, .int p0), (3, .int p1), (4, .ref vs)]) hx hb dX6_findLeft_58 hl (by decide) rfl (fun ls hl => ?_)
            obtain ⟨v_73749, v_73749_e⟩ : ∃ y : Int32, y = x_73719 + Int32.ofInt 1 := ⟨_, rfl⟩
            have h_v_73749 : 1 ≤ (v_73749 : Int32).toInt ∧ (v_73749 : Int32).toInt ≤ 6561 := by rw [v_73749_e]; exact tr_add h_73733 (⟨by decide, by decide⟩ : 1 ≤ (Int32.ofInt 1 : Int32).toInt ∧ (Int32.ofInt 1 : Int32).toInt ≤ 1) (by decide) (by decide) (by decide) (by decide)
            have q_v_73749 : v_73749.toInt = x_73719.toInt + 1 := by rw [v_73749_e]; exact tr_addE h_73733 (⟨by decide, by decide⟩ : 1 ≤ (Int32.ofInt 1 : Int32).toInt ∧ (Int32.ofInt 1 : Int32).toInt ≤ 1) (by decide) (by decide)
            refine lv_iinc (v := v_73749) (lv' := [(7, .int v_73749), (6, .int 1), (5, .int r_73092), (0, .ref sv), (1, .ref pl), (2, .int p0), (3, .int p1), (4, .ref vs)]) hx hb dX6_findLeft_60 hl (k := 1) rfl v_73749_e.symm (by decide) rfl (fun ls hl => ?_)
            refine lv_goto (tgt := 13) hx hb dX6_findLeft_63 (by decide) ?_
            exact ih_73727 oct_73740 v_73749 1 opc_73735 oew_73736 ofr_73737 opl_73743 ovw_73738 ovp_73739 H _ ls (tr_w h_v_73749 (by decide) (by decide)) (⟨by decide, by decide⟩ : 0 ≤ (1 : Int32).toInt ∧ (1 : Int32).toInt ≤ 1) (tr_wa hf_73741 (by decide) (by decide)) (tr_wa hf_73744 (by decide) (by decide)) (by (first | (clear h_x_73720 h_f_73721 h_f_73724 c_73728_i h_73730 c_73745_i h_73747; omega) | omega)) (hP.sub [15, 0, 16, 17, 1, 18, 19, 20, 2, 3, 4, 5, 6, 7, 8, 9, 10, 11, 12, 13, 14, 23, 21, 22] rfl) (hD.sub [15, 0, 16, 17, 1, 18, 19, 20, 2, 3, 4, 5, 6, 7, 8, 9, 10, 11, 12, 13, 14, 23, 21, 22] (by decide) rfl) hS (lv_sub hl [0, 1, 2, 3, 4, 5, 6, 7] rfl)
  exact lp_73727 2147483648 ct 0 1 pcf ew fr plf vsw vsp s.heap _ ls (⟨by decide, by decide⟩ : 0 ≤ (0 : Int32).toInt ∧ (0 : Int32).toInt ≤ 2147483647) (⟨by decide, by decide⟩ : 0 ≤ (1 : Int32).toInt ∧ (1 : Int32).toInt ≤ 1) (tr_wa h_pcf (by decide) (by decide)) (tr_wa h_plf (by decide) (by decide)) (by decide) (hP.sub [0, 1, 2, 3, 4, 5, 6, 7, 8, 9, 10, 11, 12, 13, 14, 15, 16, 17, 18, 19, 20, 21, 22, 23] rfl) (hD.sub [0, 1, 2, 3, 4, 5, 6, 7, 8, 9, 10, 11, 12, 13, 14, 15, 16, 17, 18, 19, 20, 21, 22, 23] (by decide) rfl) hS (lv_sub hl [0, 1, 2, 3, 4, 5, 6, 7] rfl)
set_option maxHeartbeats 4000000 in
set_option maxRecDepth 100000 in
theorem c_X6_findWorth (l : Launch) (D : va_G) (g : Nat → ClassId) (sz : Nat) (sv : Nat) (pl : Nat) (p0 : Int32) (p1 : Int32) (vs : Nat) (n : Nat) (co : Nat) (sv_keep : Nat) (sv_scaled : Nat) (eq : Nat) (co_place : Nat) (n_nodes : Int32) (n_kind : Nat) (n_pay : Nat) (n_name : Nat) (n_ways : Nat) (n_held : Nat) (n_targets : Nat) (n_weights : Nat) (n_fkind : Nat → Int32) (n_fpay : Nat → Int32) (n_fways : Nat → Int32) (n_fheld : Nat → Int32) (n_ftargets : Nat → Int32) (n_fweights : Nat → Int32) (pcf : Nat → Int32) (eq_rows : Nat) (eq_right : Nat) (ew : Int64) (fr : Nat → Int64) (rr : Nat → Nat) (ct : Nat → Nat → Int64) (plf : Nat → Int32) (vs_part : Nat) (vsw : Int64) (vsp : Nat → Int64) (h_n_nodes : 0 ≤ (n_nodes : Int32).toInt ∧ (n_nodes : Int32).toInt ≤ 12) (h_n_fkind : ∀ j : Nat, 0 ≤ (n_fkind j).toInt ∧ (n_fkind j).toInt ≤ 3) (h_n_fways : ∀ j : Nat, 0 ≤ (n_fways j).toInt ∧ (n_fways j).toInt ≤ 3) (h_n_fheld : ∀ j : Nat, (-1) ≤ (n_fheld j).toInt ∧ (n_fheld j).toInt ≤ 2) (h_n_ftargets : ∀ j : Nat, 0 ≤ (n_ftargets j).toInt ∧ (n_ftargets j).toInt ≤ 11) (h_pcf : ∀ j : Nat, (-1) ≤ (pcf j).toInt ∧ (pcf j).toInt ≤ 7) (h_plf : ∀ j : Nat, 0 ≤ (plf j).toInt ∧ (plf j).toInt ≤ 2) : Met l yX6_findWorth (.code yX6_findWorth cX6_findWorth 7 none :: wsL_law) ({ frames := 5, cells := 0, slots := 0, locals := 132 }) (va_Pc [.ref sv, .ref pl, .int p0, .int p1, .ref vs] (fun U => U.heap.size = sz ∧ va_P D vwCl [(wO6 sv n co sv_keep sv_scaled), (wO0 co n eq co_place), (wO2 n n_nodes n_kind n_pay n_name n_ways n_held n_targets n_weights), (wI g n_kind 0 12 n_fkind), (wI g n_pay 0 12 n_fpay), (wI g n_ways 0 12 n_fways), (wI g n_held 0 12 n_fheld), (wI g n_targets 0 36 n_ftargets), (wI g n_weights 0 36 n_fweights), (wI g co_place 0 12 pcf), (wO1 eq eq_rows eq_right ew), (wJ g eq_right 1 8 fr), (wR g eq_rows 5 8 (fun i => if i < 8 then some (rr i) else none)), (wJ g (rr 0) 1 8 (ct 0)), (wJ g (rr 1) 1 8 (ct 1)), (wJ g (rr 2) 1 8 (ct 2)), (wJ g (rr 3) 1 8 (ct 3)), (wJ g (rr 4) 1 8 (ct 4)), (wJ g (rr 5) 1 8 (ct 5)), (wJ g (rr 6) 1 8 (ct 6)), (wJ g (rr 7) 1 8 (ct 7)), (wI g pl 0 12 plf), (wO10 vs vs_part vsw), (wJ g vs_part 1 12 vsp)] U.heap ∧ va_K D vwCl (TY g) U ∧ va_D (fun _ => True) [(wO6 sv n co sv_keep sv_scaled), (wO0 co n eq co_place), (wO2 n n_nodes n_kind n_pay n_name n_ways n_held n_targets n_weights), (wI g n_kind 0 12 n_fkind), (wI g n_pay 0 12 n_fpay), (wI g n_ways 0 12 n_fways), (wI g n_held 0 12 n_fheld), (wI g n_targets 0 36 n_ftargets), (wI g n_weights 0 36 n_fweights), (wI g co_place 0 12 pcf), (wO1 eq eq_rows eq_right ew), (wJ g eq_right 1 8 fr), (wR g eq_rows 5 8 (fun i => if i < 8 then some (rr i) else none)), (wJ g (rr 0) 1 8 (ct 0)), (wJ g (rr 1) 1 8 (ct 1)), (wJ g (rr 2) 1 8 (ct 2)), (wJ g (rr 3) 1 8 (ct 3)), (wJ g (rr 4) 1 8 (ct 4)), (wJ g (rr 5) 1 8 (ct 5)), (wJ g (rr 6) 1 8 (ct 6)), (wJ g (rr 7) 1 8 (ct 7)), (wI g pl 0 12 plf), (wO10 vs vs_part vsw), (wJ g vs_part 1 12 vsp)])) (va_Qv (fun (_ : Unit) => True) (fun _ t => ∃ opc : Nat → Int32, ∃ oew : Int64, ∃ ofr : Nat → Int64, ∃ opl : Nat → Int32, ∃ ovw : Int64, ∃ ovp : Nat → Int64, ∃ oct : Nat → Nat → Int64, (∀ j : Nat, (-1) ≤ (opc j).toInt ∧ (opc j).toInt ≤ 7) ∧ (∀ j : Nat, 0 ≤ (opl j).toInt ∧ (opl j).toInt ≤ 2) ∧ va_P D vwCl [(wO6 sv n co sv_keep sv_scaled), (wO0 co n eq co_place), (wO2 n n_nodes n_kind n_pay n_name n_ways n_held n_targets n_weights), (wI g n_kind 0 12 n_fkind), (wI g n_pay 0 12 n_fpay), (wI g n_ways 0 12 n_fways), (wI g n_held 0 12 n_fheld), (wI g n_targets 0 36 n_ftargets), (wI g n_weights 0 36 n_fweights), (wI g co_place 0 12 opc), (wO1 eq eq_rows eq_right oew), (wJ g eq_right 1 8 ofr), (wR g eq_rows 5 8 (fun i => if i < 8 then some (rr i) else none)), (wJ g (rr 0) 1 8 (oct 0)), (wJ g (rr 1) 1 8 (oct 1)), (wJ g (rr 2) 1 8 (oct 2)), (wJ g (rr 3) 1 8 (oct 3)), (wJ g (rr 4) 1 8 (oct 4)), (wJ g (rr 5) 1 8 (oct 5)), (wJ g (rr 6) 1 8 (oct 6)), (wJ g (rr 7) 1 8 (oct 7)), (wI g pl 0 12 opl), (wO10 vs vs_part ovw), (wJ g vs_part 1 12 ovp)] t.heap ∧ va_D (va_A [(wO6 sv n co sv_keep sv_scaled), (wO0 co n eq co_place), (wO2 n n_nodes n_kind n_pay n_name n_ways n_held n_targets n_weights), (wI g n_kind 0 12 n_fkind), (wI g n_pay 0 12 n_fpay), (wI g n_ways 0 12 n_fways), (wI g n_held 0 12 n_fheld), (wI g n_targets 0 36 n_ftargets), (wI g n_weights 0 36 n_fweights), (wI g co_place 0 12 pcf), (wO1 eq eq_rows eq_right ew), (wJ g eq_right 1 8 fr), (wR g eq_rows 5 8 (fun i => if i < 8 then some (rr i) else none)), (wJ g (rr 0) 1 8 (ct 0)), (wJ g (rr 1) 1 8 (ct 1)), (wJ g (rr 2) 1 8 (ct 2)), (wJ g (rr 3) 1 8 (ct 3)), (wJ g (rr 4) 1 8 (ct 4)), (wJ g (rr 5) 1 8 (ct 5)), (wJ g (rr 6) 1 8 (ct 6)), (wJ g (rr 7) 1 8 (ct 7)), (wI g pl 0 12 plf), (wO10 vs vs_part vsw), (wJ g vs_part 1 12 vsp)] sz) [(wO6 sv n co sv_keep sv_scaled), (wO0 co n eq co_place), (wO2 n n_nodes n_kind n_pay n_name n_ways n_held n_targets n_weights), (wI g n_kind 0 12 n_fkind), (wI g n_pay 0 12 n_fpay), (wI g n_ways 0 12 n_fways), (wI g n_held 0 12 n_fheld), (wI g n_targets 0 36 n_ftargets), (wI g n_weights 0 36 n_fweights), (wI g co_place 0 12 opc), (wO1 eq eq_rows eq_right oew), (wJ g eq_right 1 8 ofr), (wR g eq_rows 5 8 (fun i => if i < 8 then some (rr i) else none)), (wJ g (rr 0) 1 8 (oct 0)), (wJ g (rr 1) 1 8 (oct 1)), (wJ g (rr 2) 1 8 (oct 2)), (wJ g (rr 3) 1 8 (oct 3)), (wJ g (rr 4) 1 8 (oct 4)), (wJ g (rr 5) 1 8 (oct 5)), (wJ g (rr 6) 1 8 (oct 6)), (wJ g (rr 7) 1 8 (oct 7)), (wI g pl 0 12 opl), (wO10 vs vs_part ovw), (wJ g vs_part 1 12 ovp)]) (va_A [(wO6 sv n co sv_keep sv_scaled), (wO0 co n eq co_place), (wO2 n n_nodes n_kind n_pay n_name n_ways n_held n_targets n_weights), (wI g n_kind 0 12 n_fkind), (wI g n_pay 0 12 n_fpay), (wI g n_ways 0 12 n_fways), (wI g n_held 0 12 n_fheld), (wI g n_targets 0 36 n_ftargets), (wI g n_weights 0 36 n_fweights), (wI g co_place 0 12 pcf), (wO1 eq eq_rows eq_right ew), (wJ g eq_right 1 8 fr), (wR g eq_rows 5 8 (fun i => if i < 8 then some (rr i) else none)), (wJ g (rr 0) 1 8 (ct 0)), (wJ g (rr 1) 1 8 (ct 1)), (wJ g (rr 2) 1 8 (ct 2)), (wJ g (rr 3) 1 8 (ct 3)), (wJ g (rr 4) 1 8 (ct 4)), (wJ g (rr 5) 1 8 (ct 5)), (wJ g (rr 6) 1 8 (ct 6)), (wJ g (rr 7) 1 8 (ct 7)), (wI g pl 0 12 plf), (wO10 vs vs_part vsw), (wJ g vs_part 1 12 vsp)] sz)) 0 0 (va_A [(wO6 sv n co sv_keep sv_scaled), (wO0 co n eq co_place), (wO2 n n_nodes n_kind n_pay n_name n_ways n_held n_targets n_weights), (wI g n_kind 0 12 n_fkind), (wI g n_pay 0 12 n_fpay), (wI g n_ways 0 12 n_fways), (wI g n_held 0 12 n_fheld), (wI g n_targets 0 36 n_ftargets), (wI g n_weights 0 36 n_fweights), (wI g co_place 0 12 pcf), (wO1 eq eq_rows eq_right ew), (wJ g eq_right 1 8 fr), (wR g eq_rows 5 8 (fun i => if i < 8 then some (rr i) else none)), (wJ g (rr 0) 1 8 (ct 0)), (wJ g (rr 1) 1 8 (ct 1)), (wJ g (rr 2) 1 8 (ct 2)), (wJ g (rr 3) 1 8 (ct 3)), (wJ g (rr 4) 1 8 (ct 4)), (wJ g (rr 5) 1 8 (ct 5)), (wJ g (rr 6) 1 8 (ct 6)), (wJ g (rr 7) 1 8 (ct 7)), (wI g pl 0 12 plf), (wO10 vs vs_part vsw), (wJ g vs_part 1 12 vsp)] sz) := by
  refine Met.ofW (cc := cX6_findWorth) (maxL := 7) (ret := none) (by decide) rfl ?_
  intro p e s m args below meth c s₁ B hml hv
  obtain ⟨ha, hsz, hP, hK, hD0⟩ := hv
  have hx := B.exec
  have hb := B.bytes
  have hr := B.returns
  have hts0 := atoms_spec (ws := (.code yX6_findWorth cX6_findWorth 7 none :: wsL_law)) B.pre
  have hts : ∀ w ∈ wsL_law, w.before args s = true := fun w h => hts0 w (List.mem_cons_of_mem _ h)
  have hown : s.vm.findClass RX6 = some m.cls := findClass_of_methodNamed B.named
  have hlocks := B.notSynchronized
  subst hsz
  have hD := hD0.self (sz := s.heap.size)
  generalize hAe : va_A [(wO6 sv n co sv_keep sv_scaled), (wO0 co n eq co_place), (wO2 n n_nodes n_kind n_pay n_name n_ways n_held n_targets n_weights), (wI g n_kind 0 12 n_fkind), (wI g n_pay 0 12 n_fpay), (wI g n_ways 0 12 n_fways), (wI g n_held 0 12 n_fheld), (wI g n_targets 0 36 n_ftargets), (wI g n_weights 0 36 n_fweights), (wI g co_place 0 12 pcf), (wO1 eq eq_rows eq_right ew), (wJ g eq_right 1 8 fr), (wR g eq_rows 5 8 (fun i => if i < 8 then some (rr i) else none)), (wJ g (rr 0) 1 8 (ct 0)), (wJ g (rr 1) 1 8 (ct 1)), (wJ g (rr 2) 1 8 (ct 2)), (wJ g (rr 3) 1 8 (ct 3)), (wJ g (rr 4) 1 8 (ct 4)), (wJ g (rr 5) 1 8 (ct 5)), (wJ g (rr 6) 1 8 (ct 6)), (wJ g (rr 7) 1 8 (ct 7)), (wI g pl 0 12 plf), (wO10 vs vs_part vsw), (wJ g vs_part 1 12 vsp)] s.heap.size = A at hD ⊢
  have hA : ∀ q : Nat, s.heap.size ≤ q → A q := fun q h => by rw [← hAe]; exact Or.inr h
  have hS : va_S A s.heap s.heap [] := va_S.rf
  have hP : va_P D vwCl [(wO6 sv n co sv_keep sv_scaled), (wO0 co n eq co_place), (wO2 n n_nodes n_kind n_pay n_name n_ways n_held n_targets n_weights), (wI g n_kind 0 12 n_fkind), (wI g n_pay 0 12 n_fpay), (wI g n_ways 0 12 n_fways), (wI g n_held 0 12 n_fheld), (wI g n_targets 0 36 n_ftargets), (wI g n_weights 0 36 n_fweights), (wI g co_place 0 12 pcf), (wO1 eq eq_rows eq_right ew), (wJ g eq_right 1 8 fr), (wR g eq_rows 5 8 (fun i => if i < 8 then some (rr i) else none)), (wJ g (rr 0) 1 8 (ct 0)), (wJ g (rr 1) 1 8 (ct 1)), (wJ g (rr 2) 1 8 (ct 2)), (wJ g (rr 3) 1 8 (ct 3)), (wJ g (rr 4) 1 8 (ct 4)), (wJ g (rr 5) 1 8 (ct 5)), (wJ g (rr 6) 1 8 (ct 6)), (wJ g (rr 7) 1 8 (ct 7)), (wI g pl 0 12 plf), (wO10 vs vs_part vsw), (wJ g vs_part 1 12 vsp)] s.heap := hP
  refine W.eq (g2 := entryFrame m ([.ref sv, .ref pl, .int p0, .int p1, .ref vs] : List Value).toArray 7) (by rw [ha]) ?_
  have hl := lv_entry ([.ref sv, .ref pl, .int p0, .int p1, .ref vs]) (n := 7) (Nat.le_of_ble_eq_true rfl)
  rw [lg_entry_eq]
  generalize (lg_sl ([.ref sv, .ref pl, .int p0, .int p1, .ref vs]) ++ List.replicate (7 - (lg_sl ([.ref sv, .ref pl, .int p0, .int p1, .ref vs])).length) Slot.unset).toArray = ls at hl ⊢
  have hl : lv_has ls 7 [(0, .ref sv), (1, .ref pl), (2, .int p0), (3, .int p1), (4, .ref vs)] := hl
  refine lv_iconst (v := 1) hx hb dX6_findWorth_0 (by decide) ?_
  refine lv_istore (lv' := [(5, .int 1), (0, .ref sv), (1, .ref pl), (2, .int p0), (3, .int p1), (4, .ref vs)]) hx hb dX6_findWorth_1 hl (by decide) rfl (fun ls hl => ?_)
  refine lv_iconst (v := 0) hx hb dX6_findWorth_3 (by decide) ?_
  refine lv_istore (lv' := [(6, .int 0), (5, .int 1), (0, .ref sv), (1, .ref pl), (2, .int p0), (3, .int p1), (4, .ref vs)]) hx hb dX6_findWorth_4 hl (by decide) rfl (fun ls hl => ?_)
  have lp_74428 : ∀ (n_74428 : Nat) (ct_74419 : Nat → Nat → Int64) (x_74420 : Int32) (x_74421 : Int32) (f_74422 : Nat → Int32) (x_74423 : Int64) (f_74424 : Nat → Int64) (f_74425 : Nat → Int32) (x_74426 : Int64) (f_74427 : Nat → Int64) (H : Heap) (locs : List Loc) (ls : Array Slot), (0 ≤ (x_74420 : Int32).toInt ∧ (x_74420 : Int32).toInt ≤ 2147483647) → (0 ≤ (x_74421 : Int32).toInt ∧ (x_74421 : Int32).toInt ≤ 1) → (∀ j : Nat, (-1) ≤ (f_74422 j).toInt ∧ (f_74422 j).toInt ≤ 7) → (∀ j : Nat, 0 ≤ (f_74425 j).toInt ∧ (f_74425 j).toInt ≤ 2) → (2147483647 - x_74420.toInt < (n_74428 : Int)) → va_P D vwCl [(wO6 sv n co sv_keep sv_scaled), (wO0 co n eq co_place), (wO2 n n_nodes n_kind n_pay n_name n_ways n_held n_targets n_weights), (wI g n_kind 0 12 n_fkind), (wI g n_pay 0 12 n_fpay), (wI g n_ways 0 12 n_fways), (wI g n_held 0 12 n_fheld), (wI g n_targets 0 36 n_ftargets), (wI g n_weights 0 36 n_fweights), (wI g co_place 0 12 f_74422), (wO1 eq eq_rows eq_right x_74423), (wJ g eq_right 1 8 f_74424), (wR g eq_rows 5 8 (fun i => if i < 8 then some (rr i) else none)), (wJ g (rr 0) 1 8 (ct_74419 0)), (wJ g (rr 1) 1 8 (ct_74419 1)), (wJ g (rr 2) 1 8 (ct_74419 2)), (wJ g (rr 3) 1 8 (ct_74419 3)), (wJ g (rr 4) 1 8 (ct_74419 4)), (wJ g (rr 5) 1 8 (ct_74419 5)), (wJ g (rr 6) 1 8 (ct_74419 6)), (wJ g (rr 7) 1 8 (ct_74419 7)), (wI g pl 0 12 f_74425), (wO10 vs vs_part x_74426), (wJ g vs_part 1 12 f_74427)] H → va_D A [(wO6 sv n co sv_keep sv_scaled), (wO0 co n eq co_place), (wO2 n n_nodes n_kind n_pay n_name n_ways n_held n_targets n_weights), (wI g n_kind 0 12 n_fkind), (wI g n_pay 0 12 n_fpay), (wI g n_ways 0 12 n_fways), (wI g n_held 0 12 n_fheld), (wI g n_targets 0 36 n_ftargets), (wI g n_weights 0 36 n_fweights), (wI g co_place 0 12 f_74422), (wO1 eq eq_rows eq_right x_74423), (wJ g eq_right 1 8 f_74424), (wR g eq_rows 5 8 (fun i => if i < 8 then some (rr i) else none)), (wJ g (rr 0) 1 8 (ct_74419 0)), (wJ g (rr 1) 1 8 (ct_74419 1)), (wJ g (rr 2) 1 8 (ct_74419 2)), (wJ g (rr 3) 1 8 (ct_74419 3)), (wJ g (rr 4) 1 8 (ct_74419 4)), (wJ g (rr 5) 1 8 (ct_74419 5)), (wJ g (rr 6) 1 8 (ct_74419 6)), (wJ g (rr 7) 1 8 (ct_74419 7)), (wI g pl 0 12 f_74425), (wO10 vs vs_part x_74426), (wJ g vs_part 1 12 f_74427)] → va_S A s.heap H locs → lv_has ls 7 [(6, .int x_74420), (5, .int x_74421), (0, .ref sv), (1, .ref pl), (2, .int p0), (3, .int p1), (4, .ref vs)] → W p l e (headSpec (.code yX6_findWorth cX6_findWorth 7 none :: wsL_law) ({ frames := 5, cells := 0, slots := 0, locals := 132 })).room s m args below meth c H locs 0 0 (MQ below (va_Qv (fun (_ : Unit) => True) (fun _ t => ∃ opc : Nat → Int32, ∃ oew : Int64, ∃ ofr : Nat → Int64, ∃ opl : Nat → Int32, ∃ ovw : Int64, ∃ ovp : Nat → Int64, ∃ oct : Nat → Nat → Int64, (∀ j : Nat, (-1) ≤ (opc j).toInt ∧ (opc j).toInt ≤ 7) ∧ (∀ j : Nat, 0 ≤ (opl j).toInt ∧ (opl j).toInt ≤ 2) ∧ va_P D vwCl [(wO6 sv n co sv_keep sv_scaled), (wO0 co n eq co_place), (wO2 n n_nodes n_kind n_pay n_name n_ways n_held n_targets n_weights), (wI g n_kind 0 12 n_fkind), (wI g n_pay 0 12 n_fpay), (wI g n_ways 0 12 n_fways), (wI g n_held 0 12 n_fheld), (wI g n_targets 0 36 n_ftargets), (wI g n_weights 0 36 n_fweights), (wI g co_place 0 12 opc), (wO1 eq eq_rows eq_right oew), (wJ g eq_right 1 8 ofr), (wR g eq_rows 5 8 (fun i => if i < 8 then some (rr i) else none)), (wJ g (rr 0) 1 8 (oct 0)), (wJ g (rr 1) 1 8 (oct 1)), (wJ g (rr 2) 1 8 (oct 2)), (wJ g (rr 3) 1 8 (oct 3)), (wJ g (rr 4) 1 8 (oct 4)), (wJ g (rr 5) 1 8 (oct 5)), (wJ g (rr 6) 1 8 (oct 6)), (wJ g (rr 7) 1 8 (oct 7)), (wI g pl 0 12 opl), (wO10 vs vs_part ovw), (wJ g vs_part 1 12 ovp)] t.heap ∧ va_D A [(wO6 sv n co sv_keep sv_scaled), (wO0 co n eq co_place), (wO2 n n_nodes n_kind n_pay n_name n_ways n_held n_targets n_weights), (wI g n_kind 0 12 n_fkind), (wI g n_pay 0 12 n_fpay), (wI g n_ways 0 12 n_fways), (wI g n_held 0 12 n_fheld), (wI g n_targets 0 36 n_ftargets), (wI g n_weights 0 36 n_fweights), (wI g co_place 0 12 opc), (wO1 eq eq_rows eq_right oew), (wJ g eq_right 1 8 ofr), (wR g eq_rows 5 8 (fun i => if i < 8 then some (rr i) else none)), (wJ g (rr 0) 1 8 (oct 0)), (wJ g (rr 1) 1 8 (oct 1)), (wJ g (rr 2) 1 8 (oct 2)), (wJ g (rr 3) 1 8 (oct 3)), (wJ g (rr 4) 1 8 (oct 4)), (wJ g (rr 5) 1 8 (oct 5)), (wJ g (rr 6) 1 8 (oct 6)), (wJ g (rr 7) 1 8 (oct 7)), (wI g pl 0 12 opl), (wO10 vs vs_part ovw), (wJ g vs_part 1 12 ovp)]) A) args s 0 0 A) (F0 m 6 ls []) := by
    intro n_74428
    induction n_74428 with
    | zero =>
      intro ct_74419 x_74420 x_74421 f_74422 x_74423 f_74424 f_74425 x_74426 f_74427 H locs ls h_x_74420 h_x_74421 h_f_74422 h_f_74425 hm_74428 hP hD hS hl
      exfalso; omega
    | succ n_74428 ih_74428 =>
      intro ct_74419 x_74420 x_74421 f_74422 x_74423 f_74424 f_74425 x_74426 f_74427 H locs ls h_x_74420 h_x_74421 h_f_74422 h_f_74425 hm_74428 hP hD hS hl
      refine lv_iload hx hb dX6_findWorth_6 (lv_at hl 1 rfl) ?_
      refine lv_if_eq (tgt := 52) hx hb dX6_findWorth_8 (by decide) (fun c_74429 => ?_) (fun c_74429 => ?_)
      · skip
        have c_74429_i : (x_74421 : Int32).toInt = (0 : Int32).toInt := congrArg Int32.toInt c_74429
        have h_74430 : 0 ≤ (x_74421 : Int32).toInt ∧ (x_74421 : Int32).toInt ≤ 0 := nr_eq_l h_x_74421 (⟨by decide, by decide⟩ : 0 ≤ (0 : Int32).toInt ∧ (0 : Int32).toInt ≤ 0) c_74429_i (by decide) (by decide)
        have hP9 := hP.sub (ws' := [(wO6 sv n co sv_keep sv_scaled), (wO0 co n eq co_place), (wO2 n n_nodes n_kind n_pay n_name n_ways n_held n_targets n_weights), (wI g n_kind 0 12 n_fkind), (wI g n_pay 0 12 n_fpay), (wI g n_ways 0 12 n_fways), (wI g n_held 0 12 n_fheld), (wI g n_targets 0 36 n_ftargets), (wI g n_weights 0 36 n_fweights), (wI g co_place 0 12 f_74422), (wO1 eq eq_rows eq_right x_74423), (wJ g eq_right 1 8 f_74424), (wR g eq_rows 5 8 (fun i => if i < 8 then some (rr i) else none)), (wJ g (rr 0) 1 8 (ct_74419 0)), (wJ g (rr 1) 1 8 (ct_74419 1)), (wJ g (rr 2) 1 8 (ct_74419 2)), (wJ g (rr 3) 1 8 (ct_74419 3)), (wJ g (rr 4) 1 8 (ct_74419 4)), (wJ g (rr 5) 1 8 (ct_74419 5)), (wJ g (rr 6) 1 8 (ct_74419 6)), (wJ g (rr 7) 1 8 (ct_74419 7)), (wI g pl 0 12 f_74425), (wO10 vs vs_part x_74426), (wJ g vs_part 1 12 f_74427)]) [0, 1, 2, 3, 4, 5, 6, 7, 8, 9, 10, 11, 12, 13, 14, 15, 16, 17, 18, 19, 20, 21, 22, 23] rfl
        have hD9 := hD.sub (ws' := [(wO6 sv n co sv_keep sv_scaled), (wO0 co n eq co_place), (wO2 n n_nodes n_kind n_pay n_name n_ways n_held n_targets n_weights), (wI g n_kind 0 12 n_fkind), (wI g n_pay 0 12 n_fpay), (wI g n_ways 0 12 n_fways), (wI g n_held 0 12 n_fheld), (wI g n_targets 0 36 n_ftargets), (wI g n_weights 0 36 n_fweights), (wI g co_place 0 12 f_74422), (wO1 eq eq_rows eq_right x_74423), (wJ g eq_right 1 8 f_74424), (wR g eq_rows 5 8 (fun i => if i < 8 then some (rr i) else none)), (wJ g (rr 0) 1 8 (ct_74419 0)), (wJ g (rr 1) 1 8 (ct_74419 1)), (wJ g (rr 2) 1 8 (ct_74419 2)), (wJ g (rr 3) 1 8 (ct_74419 3)), (wJ g (rr 4) 1 8 (ct_74419 4)), (wJ g (rr 5) 1 8 (ct_74419 5)), (wJ g (rr 6) 1 8 (ct_74419 6)), (wJ g (rr 7) 1 8 (ct_74419 7)), (wI g pl 0 12 f_74425), (wO10 vs vs_part x_74426), (wJ g vs_part 1 12 f_74427)]) [0, 1, 2, 3, 4, 5, 6, 7, 8, 9, 10, 11, 12, 13, 14, 15, 16, 17, 18, 19, 20, 21, 22, 23] (by decide) rfl
        exact W.vret hx hb hr (fun t ht hW => ⟨⟨(), rfl, trivial, f_74422, x_74423, f_74424, f_74425, x_74426, f_74427, ct_74419, (tr_wa h_f_74422 (by decide) (by decide)), (tr_wa h_f_74425 (by decide) (by decide)), by rw [ht]; exact hP9, hD9⟩, hS.F ht⟩) hS.2.2 dX6_findWorth_52
      · skip
        have c_74429_i : ¬ (x_74421 : Int32).toInt = (0 : Int32).toInt := (fun q => c_74429 (Int32.toInt_inj.mp q))
        have h_74431 : 1 ≤ (x_74421 : Int32).toInt ∧ (x_74421 : Int32).toInt ≤ 1 := nr_ne_l h_x_74421 (⟨by decide, by decide⟩ : 0 ≤ (0 : Int32).toInt ∧ (0 : Int32).toInt ≤ 0) c_74429_i (by decide) (by decide)
        refine lv_iload hx hb dX6_findWorth_11 (lv_at hl 0 rfl) ?_
        refine lv_sipush (v := 6561) hx hb dX6_findWorth_13 (by decide) ?_
        refine lv_icmp_ge (tgt := 52) hx hb dX6_findWorth_16 (by decide) (fun c_74432 => ?_) (fun c_74432 => ?_)
        · skip
          have c_74432_i := Int32.le_iff_toInt_le.mp c_74432
          have h_74433 : 6561 ≤ (x_74420 : Int32).toInt ∧ (x_74420 : Int32).toInt ≤ 2147483647 := nr_le_r (⟨by decide, by decide⟩ : 6561 ≤ (6561 : Int32).toInt ∧ (6561 : Int32).toInt ≤ 6561) h_x_74420 c_74432_i (by decide) (by decide)
          have hP9 := hP.sub (ws' := [(wO6 sv n co sv_keep sv_scaled), (wO0 co n eq co_place), (wO2 n n_nodes n_kind n_pay n_name n_ways n_held n_targets n_weights), (wI g n_kind 0 12 n_fkind), (wI g n_pay 0 12 n_fpay), (wI g n_ways 0 12 n_fways), (wI g n_held 0 12 n_fheld), (wI g n_targets 0 36 n_ftargets), (wI g n_weights 0 36 n_fweights), (wI g co_place 0 12 f_74422), (wO1 eq eq_rows eq_right x_74423), (wJ g eq_right 1 8 f_74424), (wR g eq_rows 5 8 (fun i => if i < 8 then some (rr i) else none)), (wJ g (rr 0) 1 8 (ct_74419 0)), (wJ g (rr 1) 1 8 (ct_74419 1)), (wJ g (rr 2) 1 8 (ct_74419 2)), (wJ g (rr 3) 1 8 (ct_74419 3)), (wJ g (rr 4) 1 8 (ct_74419 4)), (wJ g (rr 5) 1 8 (ct_74419 5)), (wJ g (rr 6) 1 8 (ct_74419 6)), (wJ g (rr 7) 1 8 (ct_74419 7)), (wI g pl 0 12 f_74425), (wO10 vs vs_part x_74426), (wJ g vs_part 1 12 f_74427)]) [0, 1, 2, 3, 4, 5, 6, 7, 8, 9, 10, 11, 12, 13, 14, 15, 16, 17, 18, 19, 20, 21, 22, 23] rfl
          have hD9 := hD.sub (ws' := [(wO6 sv n co sv_keep sv_scaled), (wO0 co n eq co_place), (wO2 n n_nodes n_kind n_pay n_name n_ways n_held n_targets n_weights), (wI g n_kind 0 12 n_fkind), (wI g n_pay 0 12 n_fpay), (wI g n_ways 0 12 n_fways), (wI g n_held 0 12 n_fheld), (wI g n_targets 0 36 n_ftargets), (wI g n_weights 0 36 n_fweights), (wI g co_place 0 12 f_74422), (wO1 eq eq_rows eq_right x_74423), (wJ g eq_right 1 8 f_74424), (wR g eq_rows 5 8 (fun i => if i < 8 then some (rr i) else none)), (wJ g (rr 0) 1 8 (ct_74419 0)), (wJ g (rr 1) 1 8 (ct_74419 1)), (wJ g (rr 2) 1 8 (ct_74419 2)), (wJ g (rr 3) 1 8 (ct_74419 3)), (wJ g (rr 4) 1 8 (ct_74419 4)), (wJ g (rr 5) 1 8 (ct_74419 5)), (wJ g (rr 6) 1 8 (ct_74419 6)), (wJ g (rr 7) 1 8 (ct_74419 7)), (wI g pl 0 12 f_74425), (wO10 vs vs_part x_74426), (wJ g vs_part 1 12 f_74427)]) [0, 1, 2, 3, 4, 5, 6, 7, 8, 9, 10, 11, 12, 13, 14, 15, 16, 17, 18, 19, 20, 21, 22, 23] (by decide) rfl
          exact W.vret hx hb hr (fun t ht hW => ⟨⟨(), rfl, trivial, f_74422, x_74423, f_74424, f_74425, x_74426, f_74427, ct_74419, (tr_wa h_f_74422 (by decide) (by decide)), (tr_wa h_f_74425 (by decide) (by decide)), by rw [ht]; exact hP9, hD9⟩, hS.F ht⟩) hS.2.2 dX6_findWorth_52
        · skip
          have c_74432_i := Int32.lt_iff_toInt_lt.mp (Int32.not_le.mp c_74432)
          have h_74434 : 0 ≤ (x_74420 : Int32).toInt ∧ (x_74420 : Int32).toInt ≤ 6560 := nr_lt_l h_x_74420 (⟨by decide, by decide⟩ : 6561 ≤ (6561 : Int32).toInt ∧ (6561 : Int32).toInt ≤ 6561) c_74432_i (by decide) (by decide)
          refine lv_aload_n hx hb dX6_findWorth_19 rfl (lv_at hl 2 rfl) ?_
          refine lv_aload_n hx hb dX6_findWorth_20 rfl (lv_at hl 3 rfl) ?_
          refine lv_iload_n hx hb dX6_findWorth_21 rfl (lv_at hl 4 rfl) ?_
          refine lv_iload_n hx hb dX6_findWorth_22 rfl (lv_at hl 5 rfl) ?_
          refine lv_aload hx hb dX6_findWorth_23 (lv_at hl 6 rfl) ?_
          have hPc := hP.sub (ws' := [(wO6 sv n co sv_keep sv_scaled), (wO0 co n eq co_place), (wO2 n n_nodes n_kind n_pay n_name n_ways n_held n_targets n_weights), (wI g n_kind 0 12 n_fkind), (wI g n_pay 0 12 n_fpay), (wI g n_ways 0 12 n_fways), (wI g n_held 0 12 n_fheld), (wI g n_targets 0 36 n_ftargets), (wI g n_weights 0 36 n_fweights), (wI g co_place 0 12 f_74422), (wO1 eq eq_rows eq_right x_74423), (wJ g eq_right 1 8 f_74424), (wR g eq_rows 5 8 (fun i => if i < 8 then some (rr i) else none)), (wJ g (rr 0) 1 8 (ct_74419 0)), (wJ g (rr 1) 1 8 (ct_74419 1)), (wJ g (rr 2) 1 8 (ct_74419 2)), (wJ g (rr 3) 1 8 (ct_74419 3)), (wJ g (rr 4) 1 8 (ct_74419 4)), (wJ g (rr 5) 1 8 (ct_74419 5)), (wJ g (rr 6) 1 8 (ct_74419 6)), (wJ g (rr 7) 1 8 (ct_74419 7)), (wI g pl 0 12 f_74425), (wO10 vs vs_part x_74426), (wJ g vs_part 1 12 f_74427)]) [0, 1, 2, 3, 4, 5, 6, 7, 8, 9, 10, 11, 12, 13, 14, 15, 16, 17, 18, 19, 20, 21, 22, 23] rfl
          have hDc := hD.sub (ws' := [(wO6 sv n co sv_keep sv_scaled), (wO0 co n eq co_place), (wO2 n n_nodes n_kind n_pay n_name n_ways n_held n_targets n_weights), (wI g n_kind 0 12 n_fkind), (wI g n_pay 0 12 n_fpay), (wI g n_ways 0 12 n_fways), (wI g n_held 0 12 n_fheld), (wI g n_targets 0 36 n_ftargets), (wI g n_weights 0 36 n_fweights), (wI g co_place 0 12 f_74422), (wO1 eq eq_rows eq_right x_74423), (wJ g eq_right 1 8 f_74424), (wR g eq_rows 5 8 (fun i => if i < 8 then some (rr i) else none)), (wJ g (rr 0) 1 8 (ct_74419 0)), (wJ g (rr 1) 1 8 (ct_74419 1)), (wJ g (rr 2) 1 8 (ct_74419 2)), (wJ g (rr 3) 1 8 (ct_74419 3)), (wJ g (rr 4) 1 8 (ct_74419 4)), (wJ g (rr 5) 1 8 (ct_74419 5)), (wJ g (rr 6) 1 8 (ct_74419 6)), (wJ g (rr 7) 1 8 (ct_74419 7)), (wI g pl 0 12 f_74425), (wO10 vs vs_part x_74426), (wJ g vs_part 1 12 f_74427)]) [0, 1, 2, 3, 4, 5, 6, 7, 8, 9, 10, 11, 12, 13, 14, 15, 16, 17, 18, 19, 20, 21, 22, 23] (by decide) rfl
          have hFc := va_free (wc := [(wO6 sv n co sv_keep sv_scaled), (wO0 co n eq co_place), (wO2 n n_nodes n_kind n_pay n_name n_ways n_held n_targets n_weights), (wI g n_kind 0 12 n_fkind), (wI g n_pay 0 12 n_fpay), (wI g n_ways 0 12 n_fways), (wI g n_held 0 12 n_fheld), (wI g n_targets 0 36 n_ftargets), (wI g n_weights 0 36 n_fweights), (wI g co_place 0 12 f_74422), (wO1 eq eq_rows eq_right x_74423), (wJ g eq_right 1 8 f_74424), (wR g eq_rows 5 8 (fun i => if i < 8 then some (rr i) else none)), (wJ g (rr 0) 1 8 (ct_74419 0)), (wJ g (rr 1) 1 8 (ct_74419 1)), (wJ g (rr 2) 1 8 (ct_74419 2)), (wJ g (rr 3) 1 8 (ct_74419 3)), (wJ g (rr 4) 1 8 (ct_74419 4)), (wJ g (rr 5) 1 8 (ct_74419 5)), (wJ g (rr 6) 1 8 (ct_74419 6)), (wJ g (rr 7) 1 8 (ct_74419 7)), (wI g pl 0 12 f_74425), (wO10 vs vs_part x_74426), (wJ g vs_part 1 12 f_74427)]) hD hS hA [0, 1, 2, 3, 4, 5, 6, 7, 8, 9, 10, 11, 12, 13, 14, 15, 16, 17, 18, 19, 20, 21, 22, 23] rfl
          refine va_callv (va_runV (As := [.ref pl, .int p0, .int p1, .ref vs]) (rest := []) ⟨hx, hb, hml, hown, hts⟩ (c_X6_findLeft l D g H.size sv pl p0 p1 vs n co sv_keep sv_scaled eq co_place n_nodes n_kind n_pay n_name n_ways n_held n_targets n_weights n_fkind n_fpay n_fways n_fheld n_ftargets n_fweights f_74422 eq_rows eq_right x_74423 f_74424 rr ct_74419 f_74425 vs_part x_74426 f_74427 (tr_w h_n_nodes (by decide) (by decide)) (tr_wa h_n_fkind (by decide) (by decide)) (tr_wa h_n_fways (by decide) (by decide)) (tr_wa h_n_fheld (by decide) (by decide)) (tr_wa h_n_ftargets (by decide) (by decide)) (tr_wa h_f_74422 (by decide) (by decide)) (tr_wa h_f_74425 (by decide) (by decide))) (cwV 4 hts (tz_gV qw_559 qw_560 qw_561 qw_538 qw_562) rfl rfl rfl (by decide +kernel) ⟨Nat.le_of_ble_eq_true rfl, Nat.le_of_ble_eq_true rfl⟩) ⟨tz_blQ, va_recv hK hPc (ci := 6) (q0 := 0) rfl rfl, tz_preQ hPc hK hDc⟩ rfl rfl hl.1 rfl (lv_room (Nat.le_of_ble_eq_true rfl)) dX6_findWorth_25 ⟨Nat.le_of_ble_eq_true rfl, Nat.le_of_ble_eq_true rfl⟩) hS (fun q _ h => hFc q h) hFc (fun u t H1 locs ht hvm hw hB hz1 hk1 hS => ?_)
          obtain ⟨opc_74436, oew_74437, ofr_74438, opl_74439, ovw_74440, ovp_74441, oct_74442, hf_74443, hf_74444, hP1, hD1⟩ := hB
          rw [ht] at hP1
          obtain ⟨hP, hD⟩ := va_join (wr := []) (w1 := [(wO6 sv n co sv_keep sv_scaled), (wO0 co n eq co_place), (wO2 n n_nodes n_kind n_pay n_name n_ways n_held n_targets n_weights), (wI g n_kind 0 12 n_fkind), (wI g n_pay 0 12 n_fpay), (wI g n_ways 0 12 n_fways), (wI g n_held 0 12 n_fheld), (wI g n_targets 0 36 n_ftargets), (wI g n_weights 0 36 n_fweights), (wI g co_place 0 12 opc_74436), (wO1 eq eq_rows eq_right oew_74437), (wJ g eq_right 1 8 ofr_74438), (wR g eq_rows 5 8 (fun i => if i < 8 then some (rr i) else none)), (wJ g (rr 0) 1 8 (oct_74442 0)), (wJ g (rr 1) 1 8 (oct_74442 1)), (wJ g (rr 2) 1 8 (oct_74442 2)), (wJ g (rr 3) 1 8 (oct_74442 3)), (wJ g (rr 4) 1 8 (oct_74442 4)), (wJ g (rr 5) 1 8 (oct_74442 5)), (wJ g (rr 6) 1 8 (oct_74442 6)), (wJ g (rr 7) 1 8 (oct_74442 7)), (wI g pl 0 12 opl_74439), (wO10 vs vs_part ovw_74440), (wJ g vs_part 1 12 ovp_74441)]) hP hD [0, 1, 2, 3, 4, 5, 6, 7, 8, 9, 10, 11, 12, 13, 14, 15, 16, 17, 18, 19, 20, 21, 22, 23] [] rfl rfl (by decide) (by decide) hk1 hFc hP1 hD1
          generalize H1 = H at hP hS ⊢
          have hP : va_P D vwCl [(wO6 sv n co sv_keep sv_scaled), (wO0 co n eq co_place), (wO2 n n_nodes n_kind n_pay n_name n_ways n_held n_targets n_weights), (wI g n_kind 0 12 n_fkind), (wI g n_pay 0 12 n_fpay), (wI g n_ways 0 12 n_fways), (wI g n_held 0 12 n_fheld), (wI g n_targets 0 36 n_ftargets), (wI g n_weights 0 36 n_fweights), (wI g co_place 0 12 opc_74436), (wO1 eq eq_rows eq_right oew_74437), (wJ g eq_right 1 8 ofr_74438), (wR g eq_rows 5 8 (fun i => if i < 8 then some (rr i) else none)), (wJ g (rr 0) 1 8 (oct_74442 0)), (wJ g (rr 1) 1 8 (oct_74442 1)), (wJ g (rr 2) 1 8 (oct_74442 2)), (wJ g (rr 3) 1 8 (oct_74442 3)), (wJ g (rr 4) 1 8 (oct_74442 4)), (wJ g (rr 5) 1 8 (oct_74442 5)), (wJ g (rr 6) 1 8 (oct_74442 6)), (wJ g (rr 7) 1 8 (oct_74442 7)), (wI g pl 0 12 opl_74439), (wO10 vs vs_part ovw_74440), (wJ g vs_part 1 12 ovp_74441)] H := hP
          have hD : va_D A [(wO6 sv n co sv_keep sv_scaled), (wO0 co n eq co_place), (wO2 n n_nodes n_kind n_pay n_name n_ways n_held n_targets n_weights), (wI g n_kind 0 12 n_fkind), (wI g n_pay 0 12 n_fpay), (wI g n_ways 0 12 n_fways), (wI g n_held 0 12 n_fheld), (wI g n_targets 0 36 n_ftargets), (wI g n_weights 0 36 n_fweights), (wI g co_place 0 12 opc_74436), (wO1 eq eq_rows eq_right oew_74437), (wJ g eq_right 1 8 ofr_74438), (wR g eq_rows 5 8 (fun i => if i < 8 then some (rr i) else none)), (wJ g (rr 0) 1 8 (oct_74442 0)), (wJ g (rr 1) 1 8 (oct_74442 1)), (wJ g (rr 2) 1 8 (oct_74442 2)), (wJ g (rr 3) 1 8 (oct_74442 3)), (wJ g (rr 4) 1 8 (oct_74442 4)), (wJ g (rr 5) 1 8 (oct_74442 5)), (wJ g (rr 6) 1 8 (oct_74442 6)), (wJ g (rr 7) 1 8 (oct_74442 7)), (wI g pl 0 12 opl_74439), (wO10 vs vs_part ovw_74440), (wJ g vs_part 1 12 ovp_74441)] := hD
          refine lv_aload_n hx hb dX6_findWorth_28 rfl (lv_at hl 2 rfl) ?_
          refine lv_iconst (v := 1) hx hb dX6_findWorth_29 (by decide) ?_
          refine lv_aload_n hx hb dX6_findWorth_30 rfl (lv_at hl 3 rfl) ?_
          refine lv_aload hx hb dX6_findWorth_31 (lv_at hl 6 rfl) ?_
          have hPc := hP.sub (ws' := [(wO6 sv n co sv_keep sv_scaled), (wO2 n n_nodes n_kind n_pay n_name n_ways n_held n_targets n_weights), (wI g n_kind 0 12 n_fkind), (wI g n_ways 0 12 n_fways), (wI g n_held 0 12 n_fheld), (wI g n_targets 0 36 n_ftargets), (wO10 vs vs_part ovw_74440), (wJ g vs_part 1 12 ovp_74441), (wI g pl 0 12 opl_74439)]) [0, 2, 3, 5, 6, 7, 22, 23, 21] rfl
          have hDc := hD.sub (ws' := [(wO6 sv n co sv_keep sv_scaled), (wO2 n n_nodes n_kind n_pay n_name n_ways n_held n_targets n_weights), (wI g n_kind 0 12 n_fkind), (wI g n_ways 0 12 n_fways), (wI g n_held 0 12 n_fheld), (wI g n_targets 0 36 n_ftargets), (wO10 vs vs_part ovw_74440), (wJ g vs_part 1 12 ovp_74441), (wI g pl 0 12 opl_74439)]) [0, 2, 3, 5, 6, 7, 22, 23, 21] (by decide) rfl
          have hFc := va_free (wc := [(wO6 sv n co sv_keep sv_scaled), (wO2 n n_nodes n_kind n_pay n_name n_ways n_held n_targets n_weights), (wI g n_kind 0 12 n_fkind), (wI g n_ways 0 12 n_fways), (wI g n_held 0 12 n_fheld), (wI g n_targets 0 36 n_ftargets), (wO10 vs vs_part ovw_74440), (wJ g vs_part 1 12 ovp_74441), (wI g pl 0 12 opl_74439)]) hD hS hA [0, 2, 3, 5, 6, 7, 22, 23, 21] rfl
          refine va_calli (va_runV (As := [.int 1, .ref pl, .ref vs]) (rest := []) ⟨hx, hb, hml, hown, hts⟩ (c_X6_turn l D g H.size sv 1 pl vs n co sv_keep sv_scaled n_nodes n_kind n_pay n_name n_ways n_held n_targets n_weights n_fkind n_fways n_fheld n_ftargets vs_part ovw_74440 ovp_74441 opl_74439 (tr_w h_n_nodes (by decide) (by decide)) (tr_wa h_n_fkind (by decide) (by decide)) (tr_wa h_n_fways (by decide) (by decide)) (tr_wa h_n_fheld (by decide) (by decide)) (tr_wa h_n_ftargets (by decide) (by decide)) (tr_wa hf_74444 (by decide) (by decide))) (cwV 3 hts (tz_gV qw_563 qw_564 qw_565 qw_538 qw_566) rfl rfl rfl (by decide +kernel) ⟨Nat.le_of_ble_eq_true rfl, Nat.le_of_ble_eq_true rfl⟩) ⟨tz_blQ, va_recv hK hPc (ci := 6) (q0 := 0) rfl rfl, tz_preQ hPc hK hDc⟩ rfl rfl hl.1 rfl (lv_room (Nat.le_of_ble_eq_true rfl)) dX6_findWorth_33 ⟨Nat.le_of_ble_eq_true rfl, Nat.le_of_ble_eq_true rfl⟩) hS (fun q _ h => hFc q h) hFc (fun r_74445 u t H1 locs ht hvm hw hB hz1 hk1 hS => ?_)
          obtain ⟨opl_74446, hf_74447, hP1, hD1⟩ := hB
          rw [ht] at hP1
          obtain ⟨hP, hD⟩ := va_join (wr := [(wO0 co n eq co_place), (wI g n_pay 0 12 n_fpay), (wI g n_weights 0 36 n_fweights), (wI g co_place 0 12 opc_74436), (wO1 eq eq_rows eq_right oew_74437), (wJ g eq_right 1 8 ofr_74438), (wR g eq_rows 5 8 (fun i => if i < 8 then some (rr i) else none)), (wJ g (rr 0) 1 8 (oct_74442 0)), (wJ g (rr 1) 1 8 (oct_74442 1)), (wJ g (rr 2) 1 8 (oct_74442 2)), (wJ g (rr 3) 1 8 (oct_74442 3)), (wJ g (rr 4) 1 8 (oct_74442 4)), (wJ g (rr 5) 1 8 (oct_74442 5)), (wJ g (rr 6) 1 8 (oct_74442 6)), (wJ g (rr 7) 1 8 (oct_74442 7))]) (w1 := [(wO6 sv n co sv_keep sv_scaled), (wO2 n n_nodes n_kind n_pay n_name n_ways n_held n_targets n_weights), (wI g n_kind 0 12 n_fkind), (wI g n_ways 0 12 n_fways), (wI g n_held 0 12 n_fheld), (wI g n_targets 0 36 n_ftargets), (wO10 vs vs_part ovw_74440), (wJ g vs_part 1 12 ovp_74441), (wI g pl 0 12 opl_74446)]) hP hD [0, 2, 3, 5, 6, 7, 22, 23, 21] [1, 4, 8, 9, 10, 11, 12, 13, 14, 15, 16, 17, 18, 19, 20] rfl rfl (by decide) (by decide) hk1 hFc hP1 hD1
          generalize H1 = H at hP hS ⊢
          have hP : va_P D vwCl [(wO0 co n eq co_place), (wI g n_pay 0 12 n_fpay), (wI g n_weights 0 36 n_fweights), (wI g co_place 0 12 opc_74436), (wO1 eq eq_rows eq_right oew_74437), (wJ g eq_right 1 8 ofr_74438), (wR g eq_rows 5 8 (fun i => if i < 8 then some (rr i) else none)), (wJ g (rr 0) 1 8 (oct_74442 0)), (wJ g (rr 1) 1 8 (oct_74442 1)), (wJ g (rr 2) 1 8 (oct_74442 2)), (wJ g (rr 3) 1 8 (oct_74442 3)), (wJ g (rr 4) 1 8 (oct_74442 4)), (wJ g (rr 5) 1 8 (oct_74442 5)), (wJ g (rr 6) 1 8 (oct_74442 6)), (wJ g (rr 7) 1 8 (oct_74442 7)), (wO6 sv n co sv_keep sv_scaled), (wO2 n n_nodes n_kind n_pay n_name n_ways n_held n_targets n_weights), (wI g n_kind 0 12 n_fkind), (wI g n_ways 0 12 n_fways), (wI g n_held 0 12 n_fheld), (wI g n_targets 0 36 n_ftargets), (wO10 vs vs_part ovw_74440), (wJ g vs_part 1 12 ovp_74441), (wI g pl 0 12 opl_74446)] H := hP
          have hD : va_D A [(wO0 co n eq co_place), (wI g n_pay 0 12 n_fpay), (wI g n_weights 0 36 n_fweights), (wI g co_place 0 12 opc_74436), (wO1 eq eq_rows eq_right oew_74437), (wJ g eq_right 1 8 ofr_74438), (wR g eq_rows 5 8 (fun i => if i < 8 then some (rr i) else none)), (wJ g (rr 0) 1 8 (oct_74442 0)), (wJ g (rr 1) 1 8 (oct_74442 1)), (wJ g (rr 2) 1 8 (oct_74442 2)), (wJ g (rr 3) 1 8 (oct_74442 3)), (wJ g (rr 4) 1 8 (oct_74442 4)), (wJ g (rr 5) 1 8 (oct_74442 5)), (wJ g (rr 6) 1 8 (oct_74442 6)), (wJ g (rr 7) 1 8 (oct_74442 7)), (wO6 sv n co sv_keep sv_scaled), (wO2 n n_nodes n_kind n_pay n_name n_ways n_held n_targets n_weights), (wI g n_kind 0 12 n_fkind), (wI g n_ways 0 12 n_fways), (wI g n_held 0 12 n_fheld), (wI g n_targets 0 36 n_ftargets), (wO10 vs vs_part ovw_74440), (wJ g vs_part 1 12 ovp_74441), (wI g pl 0 12 opl_74446)] := hD
          refine lv_if_le (tgt := 43) hx hb dX6_findWorth_36 (by decide) (fun c_74448 => ?_) (fun c_74448 => ?_)
          · skip
            have c_74448_i := Int32.le_iff_toInt_le.mp c_74448
            have h_74449 : (-2147483648) ≤ (r_74445 : Int32).toInt ∧ (r_74445 : Int32).toInt ≤ 0 := nr_le_l (tr_any r_74445) (⟨by decide, by decide⟩ : 0 ≤ (0 : Int32).toInt ∧ (0 : Int32).toInt ≤ 0) c_74448_i (by decide) (by decide)
            refine lv_iconst (v := 0) hx hb dX6_findWorth_43 (by decide) ?_
            refine lv_istore (lv' := [(5, .int 0), (6, .int x_74420), (0, .ref sv), (1, .ref pl), (2, .int p0), (3, .int p1), (4, .ref vs)]) hx hb dX6_findWorth_44 hl (by decide) rfl (fun ls hl => ?_)
            obtain ⟨v_74451, v_74451_e⟩ : ∃ y : Int32, y = x_74420 + Int32.ofInt 1 := ⟨_, rfl⟩
            have h_v_74451 : 1 ≤ (v_74451 : Int32).toInt ∧ (v_74451 : Int32).toInt ≤ 6561 := by rw [v_74451_e]; exact tr_add h_74434 (⟨by decide, by decide⟩ : 1 ≤ (Int32.ofInt 1 : Int32).toInt ∧ (Int32.ofInt 1 : Int32).toInt ≤ 1) (by decide) (by decide) (by decide) (by decide)
            have q_v_74451 : v_74451.toInt = x_74420.toInt + 1 := by rw [v_74451_e]; exact tr_addE h_74434 (⟨by decide, by decide⟩ : 1 ≤ (Int32.ofInt 1 : Int32).toInt ∧ (Int32.ofInt 1 : Int32).toInt ≤ 1) (by decide) (by decide)
            refine lv_iinc (v := v_74451) (lv' := [(6, .int v_74451), (5, .int 0), (0, .ref sv), (1, .ref pl), (2, .int p0), (3, .int p1), (4, .ref vs)]) hx hb dX6_findWorth_46 hl (k := 1) rfl v_74451_e.symm (by decide) rfl (fun ls hl => ?_)
            refine lv_goto (tgt := 6) hx hb dX6_findWorth_49 (by decide) ?_
            exact ih_74428 oct_74442 v_74451 0 opc_74436 oew_74437 ofr_74438 opl_74446 ovw_74440 ovp_74441 H _ ls (tr_w h_v_74451 (by decide) (by decide)) (⟨by decide, by decide⟩ : 0 ≤ (0 : Int32).toInt ∧ (0 : Int32).toInt ≤ 1) (tr_wa hf_74443 (by decide) (by decide)) (tr_wa hf_74447 (by decide) (by decide)) (by (first | (clear h_x_74421 h_f_74422 h_f_74425 c_74429_i h_74431 c_74448_i h_74449; omega) | omega)) (hP.sub [15, 0, 16, 17, 1, 18, 19, 20, 2, 3, 4, 5, 6, 7, 8, 9, 10, 11, 12, 13, 14, 23, 21, 22] rfl) (hD.sub [15, 0, 16, 17, 1, 18, 19, 20, 2, 3, 4, 5, 6, 7, 8, 9, 10, 11, 12, 13, 14, 23, 21, 22] (by decide) rfl) hS (lv_sub hl [0, 1, 2, 3, 4, 5, 6] rfl)
          · skip
            have c_74448_i := Int32.lt_iff_toInt_lt.mp (Int32.not_le.mp c_74448)
            have h_74450 : 1 ≤ (r_74445 : Int32).toInt ∧ (r_74445 : Int32).toInt ≤ 2147483647 := nr_lt_r (⟨by decide, by decide⟩ : 0 ≤ (0 : Int32).toInt ∧ (0 : Int32).toInt ≤ 0) (tr_any r_74445) c_74448_i (by decide) (by decide)
            refine lv_iconst (v := 1) hx hb dX6_findWorth_39 (by decide) ?_
            refine lv_goto (tgt := 44) hx hb dX6_findWorth_40 (by decide) ?_
            refine lv_istore (lv' := [(5, .int 1), (6, .int x_74420), (0, .ref sv), (1, .ref pl), (2, .int p0), (3, .int p1), (4, .ref vs)]) hx hb dX6_findWorth_44 hl (by decide) rfl (fun ls hl => ?_)
            obtain ⟨v_74452, v_74452_e⟩ : ∃ y : Int32, y = x_74420 + Int32.ofInt 1 := ⟨_, rfl⟩
            have h_v_74452 : 1 ≤ (v_74452 : Int32).toInt ∧ (v_74452 : Int32).toInt ≤ 6561 := by rw [v_74452_e]; exact tr_add h_74434 (⟨by decide, by decide⟩ : 1 ≤ (Int32.ofInt 1 : Int32).toInt ∧ (Int32.ofInt 1 : Int32).toInt ≤ 1) (by decide) (by decide) (by decide) (by decide)
            have q_v_74452 : v_74452.toInt = x_74420.toInt + 1 := by rw [v_74452_e]; exact tr_addE h_74434 (⟨by decide, by decide⟩ : 1 ≤ (Int32.ofInt 1 : Int32).toInt ∧ (Int32.ofInt 1 : Int32).toInt ≤ 1) (by decide) (by decide)
            refine lv_iinc (v := v_74452) (lv' := [(6, .int v_74452), (5, .int 1), (0, .ref sv), (1, .ref pl), (2, .int p0), (3, .int p1), (4, .ref vs)]) hx hb dX6_findWorth_46 hl (k := 1) rfl v_74452_e.symm (by decide) rfl (fun ls hl => ?_)
            refine lv_goto (tgt := 6) hx hb dX6_findWorth_49 (by decide) ?_
            exact ih_74428 oct_74442 v_74452 1 opc_74436 oew_74437 ofr_74438 opl_74446 ovw_74440 ovp_74441 H _ ls (tr_w h_v_74452 (by decide) (by decide)) (⟨by decide, by decide⟩ : 0 ≤ (1 : Int32).toInt ∧ (1 : Int32).toInt ≤ 1) (tr_wa hf_74443 (by decide) (by decide)) (tr_wa hf_74447 (by decide) (by decide)) (by (first | (clear h_x_74421 h_f_74422 h_f_74425 c_74429_i h_74431 c_74448_i h_74450; omega) | omega)) (hP.sub [15, 0, 16, 17, 1, 18, 19, 20, 2, 3, 4, 5, 6, 7, 8, 9, 10, 11, 12, 13, 14, 23, 21, 22] rfl) (hD.sub [15, 0, 16, 17, 1, 18, 19, 20, 2, 3, 4, 5, 6, 7, 8, 9, 10, 11, 12, 13, 14, 23, 21, 22] (by decide) rfl) hS (lv_sub hl [0, 1, 2, 3, 4, 5, 6] rfl)
  exact lp_74428 2147483648 ct 0 1 pcf ew fr plf vsw vsp s.heap _ ls (⟨by decide, by decide⟩ : 0 ≤ (0 : Int32).toInt ∧ (0 : Int32).toInt ≤ 2147483647) (⟨by decide, by decide⟩ : 0 ≤ (1 : Int32).toInt ∧ (1 : Int32).toInt ≤ 1) (tr_wa h_pcf (by decide) (by decide)) (tr_wa h_plf (by decide) (by decide)) (by decide) (hP.sub [0, 1, 2, 3, 4, 5, 6, 7, 8, 9, 10, 11, 12, 13, 14, 15, 16, 17, 18, 19, 20, 21, 22, 23] rfl) (hD.sub [0, 1, 2, 3, 4, 5, 6, 7, 8, 9, 10, 11, 12, 13, 14, 15, 16, 17, 18, 19, 20, 21, 22, 23] (by decide) rfl) hS (lv_sub hl [0, 1, 2, 3, 4, 5, 6] rfl)
set_option maxHeartbeats 4000000 in
set_option maxRecDepth 100000 in
theorem c_X6_lowest (l : Launch) (D : va_G) (g : Nat → ClassId) (p0 : Int32) : Met l yX6_lowest (.code yX6_lowest cX6_lowest 2 (some .int) :: wsL_law) ({ frames := 0, cells := 0, slots := 0, locals := 0 }) (va_Pc [.int p0] (fun U => va_P D vwCl [] U.heap ∧ va_K D vwCl (TY g) U)) (vp_Si (fun r => 0 ≤ (r : Int32).toInt ∧ (r : Int32).toInt ≤ 2)) 0 0 (fun _ => False) := by
  refine Met.ofW (cc := cX6_lowest) (maxL := 2) (ret := (some .int)) (by decide) rfl ?_
  intro p e s m args below meth c s₁ B hml hv
  obtain ⟨ha, hP, hK⟩ := hv
  have hx := B.exec
  have hb := B.bytes
  have hr := B.returns
  have hts0 := atoms_spec (ws := (.code yX6_lowest cX6_lowest 2 (some .int) :: wsL_law)) B.pre
  have hts : ∀ w ∈ wsL_law, w.before args s = true := fun w h => hts0 w (List.mem_cons_of_mem _ h)
  have hown : s.vm.findClass RX6 = some m.cls := findClass_of_methodNamed B.named
  have hlocks := B.notSynchronized
  have hP : va_P D vwCl [] s.heap := hP
  refine W.eq (g2 := entryFrame m ([.int p0] : List Value).toArray 2) (by rw [ha]) ?_
  have hl := lv_entry ([.int p0]) (n := 2) (Nat.le_of_ble_eq_true rfl)
  rw [lg_entry_eq]
  generalize (lg_sl ([.int p0]) ++ List.replicate (2 - (lg_sl ([.int p0])).length) Slot.unset).toArray = ls at hl ⊢
  have hl : lv_has ls 2 [(0, .int p0)] := hl
  refine lv_iconst (v := 0) hx hb dX6_lowest_0 (by decide) ?_
  refine lv_istore_n (lv' := [(1, .int 0), (0, .int p0)]) hx hb dX6_lowest_1 rfl hl (by decide) rfl (fun ls hl => ?_)
  have lp_74481 : ∀ (n_74481 : Nat) (x_74480 : Int32) (ls : Array Slot), (0 ≤ (x_74480 : Int32).toInt ∧ (x_74480 : Int32).toInt ≤ 3) → (3 - x_74480.toInt < (n_74481 : Int)) → lv_has ls 2 [(1, .int x_74480), (0, .int p0)] → W p l e (headSpec (.code yX6_lowest cX6_lowest 2 (some .int) :: wsL_law) ({ frames := 0, cells := 0, slots := 0, locals := 0 })).room s m args below meth c s.heap [] 0 0 (MQ below (vp_Si (fun r => 0 ≤ (r : Int32).toInt ∧ (r : Int32).toInt ≤ 2)) args s 0 0 (fun _ => False)) (F0 m 2 ls []) := by
    intro n_74481
    induction n_74481 with
    | zero =>
      intro x_74480 ls h_x_74480 hm_74481 hl
      exfalso; omega
    | succ n_74481 ih_74481 =>
      intro x_74480 ls h_x_74480 hm_74481 hl
      refine lv_iload_n hx hb dX6_lowest_2 rfl (lv_at hl 0 rfl) ?_
      refine lv_iconst (v := 3) hx hb dX6_lowest_3 (by decide) ?_
      refine lv_icmp_ge (tgt := 23) hx hb dX6_lowest_4 (by decide) (fun c_74482 => ?_) (fun c_74482 => ?_)
      · skip
        have c_74482_i := Int32.le_iff_toInt_le.mp c_74482
        have h_74483 : 3 ≤ (x_74480 : Int32).toInt ∧ (x_74480 : Int32).toInt ≤ 3 := nr_le_r (⟨by decide, by decide⟩ : 3 ≤ (3 : Int32).toInt ∧ (3 : Int32).toInt ≤ 3) h_x_74480 c_74482_i (by decide) (by decide)
        refine lv_iconst (v := 0) hx hb dX6_lowest_23 (by decide) ?_
        exact W.iret (v := 0) hx hb hr (fun t ht hW => ⟨0, rfl, (⟨by decide, by decide⟩ : 0 ≤ (0 : Int32).toInt ∧ (0 : Int32).toInt ≤ 2), ht⟩) (fun _ h => nomatch h) dX6_lowest_24
      · skip
        have c_74482_i := Int32.lt_iff_toInt_lt.mp (Int32.not_le.mp c_74482)
        have h_74484 : 0 ≤ (x_74480 : Int32).toInt ∧ (x_74480 : Int32).toInt ≤ 2 := nr_lt_l h_x_74480 (⟨by decide, by decide⟩ : 3 ≤ (3 : Int32).toInt ∧ (3 : Int32).toInt ≤ 3) c_74482_i (by decide) (by decide)
        refine lv_iload_n hx hb dX6_lowest_7 rfl (lv_at hl 1 rfl) ?_
        refine lv_iload_n hx hb dX6_lowest_8 rfl (lv_at hl 0 rfl) ?_
        refine lv_ishr hx hb dX6_lowest_9 ?_
        refine lv_topi (fun v_74485 v_74485_e => ?_)
        refine lv_iconst (v := 1) hx hb dX6_lowest_10 (by decide) ?_
        refine lv_iand hx hb dX6_lowest_11 ?_
        refine lv_topi (fun v_74486 v_74486_e => ?_)
        refine lv_if_eq (tgt := 17) hx hb dX6_lowest_12 (by decide) (fun c_74487 => ?_) (fun c_74487 => ?_)
        · skip
          have h_74488 : 0 ≤ (v_74486 : Int32).toInt ∧ (v_74486 : Int32).toInt ≤ 0 := by rw [c_74487]; exact ⟨by decide, by decide⟩
          obtain ⟨v_74489, v_74489_e⟩ : ∃ y : Int32, y = x_74480 + Int32.ofInt 1 := ⟨_, rfl⟩
          have h_v_74489 : 1 ≤ (v_74489 : Int32).toInt ∧ (v_74489 : Int32).toInt ≤ 3 := by rw [v_74489_e]; exact tr_add h_74484 (⟨by decide, by decide⟩ : 1 ≤ (Int32.ofInt 1 : Int32).toInt ∧ (Int32.ofInt 1 : Int32).toInt ≤ 1) (by decide) (by decide) (by decide) (by decide)
          have q_v_74489 : v_74489.toInt = x_74480.toInt + 1 := by rw [v_74489_e]; exact tr_addE h_74484 (⟨by decide, by decide⟩ : 1 ≤ (Int32.ofInt 1 : Int32).toInt ∧ (Int32.ofInt 1 : Int32).toInt ≤ 1) (by decide) (by decide)
          refine lv_iinc (v := v_74489) (lv' := [(1, .int v_74489), (0, .int p0)]) hx hb dX6_lowest_17 hl (k := 0) rfl v_74489_e.symm (by decide) rfl (fun ls hl => ?_)
          refine lv_goto (tgt := 2) hx hb dX6_lowest_20 (by decide) ?_
          exact ih_74481 v_74489 ls (tr_w h_v_74489 (by decide) (by decide)) (by omega) (lv_sub hl [0, 1] rfl)
        · skip
          refine lv_iload_n hx hb dX6_lowest_15 rfl (lv_at hl 0 rfl) ?_
          exact W.iret (v := x_74480) hx hb hr (fun t ht hW => ⟨x_74480, rfl, (tr_w h_74484 (by decide) (by decide)), ht⟩) (fun _ h => nomatch h) dX6_lowest_16
  exact lp_74481 4 0 ls (⟨by decide, by decide⟩ : 0 ≤ (0 : Int32).toInt ∧ (0 : Int32).toInt ≤ 3) (by decide) (lv_sub hl [0, 1] rfl)
set_option maxHeartbeats 4000000 in
set_option maxRecDepth 100000 in
theorem c_X6_keepEven (l : Launch) (D : va_G) (g : Nat → ClassId) (sz : Nat) (sv : Nat) (vs : Nat) (n : Nat) (co : Nat) (sv_keep : Nat) (sv_scaled : Nat) (n_nodes : Int32) (n_kind : Nat) (n_pay : Nat) (n_name : Nat) (n_ways : Nat) (n_held : Nat) (n_targets : Nat) (n_weights : Nat) (n_fkind : Nat → Int32) (n_fpay : Nat → Int32) (n_fways : Nat → Int32) (n_fheld : Nat → Int32) (n_ftargets : Nat → Int32) (vs_part : Nat) (vsw : Int64) (vsp : Nat → Int64) (kpf : Nat → Int32) (h_n_nodes : 0 ≤ (n_nodes : Int32).toInt ∧ (n_nodes : Int32).toInt ≤ 12) (h_n_fkind : ∀ j : Nat, 0 ≤ (n_fkind j).toInt ∧ (n_fkind j).toInt ≤ 3) (h_n_fways : ∀ j : Nat, 0 ≤ (n_fways j).toInt ∧ (n_fways j).toInt ≤ 3) (h_n_fheld : ∀ j : Nat, (-1) ≤ (n_fheld j).toInt ∧ (n_fheld j).toInt ≤ 2) (h_n_ftargets : ∀ j : Nat, 0 ≤ (n_ftargets j).toInt ∧ (n_ftargets j).toInt ≤ 11) : Met l yX6_keepEven (.code yX6_keepEven cX6_keepEven 4 none :: wsL_law) ({ frames := 1, cells := 0, slots := 0, locals := 22 }) (va_Pc [.ref sv, .ref vs] (fun U => U.heap.size = sz ∧ va_P D vwCl [(wO6 sv n co sv_keep sv_scaled), (wO2 n n_nodes n_kind n_pay n_name n_ways n_held n_targets n_weights), (wI g n_kind 0 12 n_fkind), (wI g n_pay 0 12 n_fpay), (wI g n_ways 0 12 n_fways), (wI g n_held 0 12 n_fheld), (wI g n_targets 0 36 n_ftargets), (wO10 vs vs_part vsw), (wJ g vs_part 1 12 vsp), (wI g sv_keep 0 12 kpf)] U.heap ∧ va_K D vwCl (TY g) U ∧ va_D (fun _ => True) [(wO6 sv n co sv_keep sv_scaled), (wO2 n n_nodes n_kind n_pay n_name n_ways n_held n_targets n_weights), (wI g n_kind 0 12 n_fkind), (wI g n_pay 0 12 n_fpay), (wI g n_ways 0 12 n_fways), (wI g n_held 0 12 n_fheld), (wI g n_targets 0 36 n_ftargets), (wO10 vs vs_part vsw), (wJ g vs_part 1 12 vsp), (wI g sv_keep 0 12 kpf)])) (va_Qv (fun (_ : Unit) => True) (fun _ t => ∃ okp : Nat → Int32, va_P D vwCl [(wO6 sv n co sv_keep sv_scaled), (wO2 n n_nodes n_kind n_pay n_name n_ways n_held n_targets n_weights), (wI g n_kind 0 12 n_fkind), (wI g n_pay 0 12 n_fpay), (wI g n_ways 0 12 n_fways), (wI g n_held 0 12 n_fheld), (wI g n_targets 0 36 n_ftargets), (wO10 vs vs_part vsw), (wJ g vs_part 1 12 vsp), (wI g sv_keep 0 12 okp)] t.heap ∧ va_D (va_A [(wO6 sv n co sv_keep sv_scaled), (wO2 n n_nodes n_kind n_pay n_name n_ways n_held n_targets n_weights), (wI g n_kind 0 12 n_fkind), (wI g n_pay 0 12 n_fpay), (wI g n_ways 0 12 n_fways), (wI g n_held 0 12 n_fheld), (wI g n_targets 0 36 n_ftargets), (wO10 vs vs_part vsw), (wJ g vs_part 1 12 vsp), (wI g sv_keep 0 12 kpf)] sz) [(wO6 sv n co sv_keep sv_scaled), (wO2 n n_nodes n_kind n_pay n_name n_ways n_held n_targets n_weights), (wI g n_kind 0 12 n_fkind), (wI g n_pay 0 12 n_fpay), (wI g n_ways 0 12 n_fways), (wI g n_held 0 12 n_fheld), (wI g n_targets 0 36 n_ftargets), (wO10 vs vs_part vsw), (wJ g vs_part 1 12 vsp), (wI g sv_keep 0 12 okp)]) (va_A [(wO6 sv n co sv_keep sv_scaled), (wO2 n n_nodes n_kind n_pay n_name n_ways n_held n_targets n_weights), (wI g n_kind 0 12 n_fkind), (wI g n_pay 0 12 n_fpay), (wI g n_ways 0 12 n_fways), (wI g n_held 0 12 n_fheld), (wI g n_targets 0 36 n_ftargets), (wO10 vs vs_part vsw), (wJ g vs_part 1 12 vsp), (wI g sv_keep 0 12 kpf)] sz)) 0 0 (va_A [(wO6 sv n co sv_keep sv_scaled), (wO2 n n_nodes n_kind n_pay n_name n_ways n_held n_targets n_weights), (wI g n_kind 0 12 n_fkind), (wI g n_pay 0 12 n_fpay), (wI g n_ways 0 12 n_fways), (wI g n_held 0 12 n_fheld), (wI g n_targets 0 36 n_ftargets), (wO10 vs vs_part vsw), (wJ g vs_part 1 12 vsp), (wI g sv_keep 0 12 kpf)] sz) := by
  refine Met.ofW (cc := cX6_keepEven) (maxL := 4) (ret := none) (by decide) rfl ?_
  intro p e s m args below meth c s₁ B hml hv
  obtain ⟨ha, hsz, hP, hK, hD0⟩ := hv
  have hx := B.exec
  have hb := B.bytes
  have hr := B.returns
  have hts0 := atoms_spec (ws := (.code yX6_keepEven cX6_keepEven 4 none :: wsL_law)) B.pre
  have hts : ∀ w ∈ wsL_law, w.before args s = true := fun w h => hts0 w (List.mem_cons_of_mem _ h)
  have hown : s.vm.findClass RX6 = some m.cls := findClass_of_methodNamed B.named
  have hlocks := B.notSynchronized
  subst hsz
  have hD := hD0.self (sz := s.heap.size)
  generalize hAe : va_A [(wO6 sv n co sv_keep sv_scaled), (wO2 n n_nodes n_kind n_pay n_name n_ways n_held n_targets n_weights), (wI g n_kind 0 12 n_fkind), (wI g n_pay 0 12 n_fpay), (wI g n_ways 0 12 n_fways), (wI g n_held 0 12 n_fheld), (wI g n_targets 0 36 n_ftargets), (wO10 vs vs_part vsw), (wJ g vs_part 1 12 vsp), (wI g sv_keep 0 12 kpf)] s.heap.size = A at hD ⊢
  have hA : ∀ q : Nat, s.heap.size ≤ q → A q := fun q h => by rw [← hAe]; exact Or.inr h
  have hS : va_S A s.heap s.heap [] := va_S.rf
  have hP : va_P D vwCl [(wO6 sv n co sv_keep sv_scaled), (wO2 n n_nodes n_kind n_pay n_name n_ways n_held n_targets n_weights), (wI g n_kind 0 12 n_fkind), (wI g n_pay 0 12 n_fpay), (wI g n_ways 0 12 n_fways), (wI g n_held 0 12 n_fheld), (wI g n_targets 0 36 n_ftargets), (wO10 vs vs_part vsw), (wJ g vs_part 1 12 vsp), (wI g sv_keep 0 12 kpf)] s.heap := hP
  refine W.eq (g2 := entryFrame m ([.ref sv, .ref vs] : List Value).toArray 4) (by rw [ha]) ?_
  have hl := lv_entry ([.ref sv, .ref vs]) (n := 4) (Nat.le_of_ble_eq_true rfl)
  rw [lg_entry_eq]
  generalize (lg_sl ([.ref sv, .ref vs]) ++ List.replicate (4 - (lg_sl ([.ref sv, .ref vs])).length) Slot.unset).toArray = ls at hl ⊢
  have hl : lv_has ls 4 [(0, .ref sv), (1, .ref vs)] := hl
  refine lv_iconst (v := 0) hx hb dX6_keepEven_0 (by decide) ?_
  refine lv_istore_n (lv' := [(2, .int 0), (0, .ref sv), (1, .ref vs)]) hx hb dX6_keepEven_1 rfl hl (by decide) rfl (fun ls hl => ?_)
  have lp_75525 : ∀ (n_75525 : Nat) (x_75523 : Int32) (f_75524 : Nat → Int32) (H : Heap) (locs : List Loc) (ls : Array Slot), (0 ≤ (x_75523 : Int32).toInt ∧ (x_75523 : Int32).toInt ≤ 12) → (12 - x_75523.toInt < (n_75525 : Int)) → va_P D vwCl [(wO6 sv n co sv_keep sv_scaled), (wO2 n n_nodes n_kind n_pay n_name n_ways n_held n_targets n_weights), (wI g n_kind 0 12 n_fkind), (wI g n_pay 0 12 n_fpay), (wI g n_ways 0 12 n_fways), (wI g n_held 0 12 n_fheld), (wI g n_targets 0 36 n_ftargets), (wO10 vs vs_part vsw), (wJ g vs_part 1 12 vsp), (wI g sv_keep 0 12 f_75524)] H → va_D A [(wO6 sv n co sv_keep sv_scaled), (wO2 n n_nodes n_kind n_pay n_name n_ways n_held n_targets n_weights), (wI g n_kind 0 12 n_fkind), (wI g n_pay 0 12 n_fpay), (wI g n_ways 0 12 n_fways), (wI g n_held 0 12 n_fheld), (wI g n_targets 0 36 n_ftargets), (wO10 vs vs_part vsw), (wJ g vs_part 1 12 vsp), (wI g sv_keep 0 12 f_75524)] → va_S A s.heap H locs → lv_has ls 4 [(2, .int x_75523), (0, .ref sv), (1, .ref vs)] → W p l e (headSpec (.code yX6_keepEven cX6_keepEven 4 none :: wsL_law) ({ frames := 1, cells := 0, slots := 0, locals := 22 })).room s m args below meth c H locs 0 0 (MQ below (va_Qv (fun (_ : Unit) => True) (fun _ t => ∃ okp : Nat → Int32, va_P D vwCl [(wO6 sv n co sv_keep sv_scaled), (wO2 n n_nodes n_kind n_pay n_name n_ways n_held n_targets n_weights), (wI g n_kind 0 12 n_fkind), (wI g n_pay 0 12 n_fpay), (wI g n_ways 0 12 n_fways), (wI g n_held 0 12 n_fheld), (wI g n_targets 0 36 n_ftargets), (wO10 vs vs_part vsw), (wJ g vs_part 1 12 vsp), (wI g sv_keep 0 12 okp)] t.heap ∧ va_D A [(wO6 sv n co sv_keep sv_scaled), (wO2 n n_nodes n_kind n_pay n_name n_ways n_held n_targets n_weights), (wI g n_kind 0 12 n_fkind), (wI g n_pay 0 12 n_fpay), (wI g n_ways 0 12 n_fways), (wI g n_held 0 12 n_fheld), (wI g n_targets 0 36 n_ftargets), (wO10 vs vs_part vsw), (wJ g vs_part 1 12 vsp), (wI g sv_keep 0 12 okp)]) A) args s 0 0 A) (F0 m 2 ls []) := by
    intro n_75525
    induction n_75525 with
    | zero =>
      intro x_75523 f_75524 H locs ls h_x_75523 hm_75525 hP hD hS hl
      exfalso; omega
    | succ n_75525 ih_75525 =>
      intro x_75523 f_75524 H locs ls h_x_75523 hm_75525 hP hD hS hl
      refine lv_iload_n hx hb dX6_keepEven_2 rfl (lv_at hl 0 rfl) ?_
      refine lv_aload_n hx hb dX6_keepEven_3 rfl (lv_at hl 1 rfl) ?_
      refine va_get (D := D) (ci := 6) (v := .ref n) (C := RX6) (T := TX6) (N := 4) hx hb hts inlX6 hown hK hP 0 rfl rfl 0 (by decide) (hts (Cond.fieldLink RX6 19 "ChanceRings$Solver" "net" "LChanceRings$Net;") qw_528) (fun _ h9 => h9) rfl dX6_keepEven_4 ?_
      refine va_get (D := D) (ci := 2) (v := .int n_nodes) (C := RX2) (T := TX2) (N := 8) hx hb hts inlX2 hown hK hP 1 rfl rfl 0 (by decide) (hts (Cond.fieldLink RX6 32 "ChanceRings$Net" "nodes" "I") qw_529) (fun _ h9 => h9) rfl dX6_keepEven_7 ?_
      refine lv_icmp_ge (tgt := 95) hx hb dX6_keepEven_10 (by decide) (fun c_75526 => ?_) (fun c_75526 => ?_)
      · skip
        have hP9 := hP.sub (ws' := [(wO6 sv n co sv_keep sv_scaled), (wO2 n n_nodes n_kind n_pay n_name n_ways n_held n_targets n_weights), (wI g n_kind 0 12 n_fkind), (wI g n_pay 0 12 n_fpay), (wI g n_ways 0 12 n_fways), (wI g n_held 0 12 n_fheld), (wI g n_targets 0 36 n_ftargets), (wO10 vs vs_part vsw), (wJ g vs_part 1 12 vsp), (wI g sv_keep 0 12 f_75524)]) [0, 1, 2, 3, 4, 5, 6, 7, 8, 9] rfl
        have hD9 := hD.sub (ws' := [(wO6 sv n co sv_keep sv_scaled), (wO2 n n_nodes n_kind n_pay n_name n_ways n_held n_targets n_weights), (wI g n_kind 0 12 n_fkind), (wI g n_pay 0 12 n_fpay), (wI g n_ways 0 12 n_fways), (wI g n_held 0 12 n_fheld), (wI g n_targets 0 36 n_ftargets), (wO10 vs vs_part vsw), (wJ g vs_part 1 12 vsp), (wI g sv_keep 0 12 f_75524)]) [0, 1, 2, 3, 4, 5, 6, 7, 8, 9] (by decide) rfl
        exact W.vret hx hb hr (fun t ht hW => ⟨⟨(), rfl, trivial, f_75524, by rw [ht]; exact hP9, hD9⟩, hS.F ht⟩) hS.2.2 dX6_keepEven_95
      · skip
        have c_75526_i := Int32.lt_iff_toInt_lt.mp (Int32.not_le.mp c_75526)
        have h_75527 : 0 ≤ (x_75523 : Int32).toInt ∧ (x_75523 : Int32).toInt ≤ 11 := nr_lt_l h_x_75523 h_n_nodes c_75526_i (by decide) (by decide)
        have h_75528 : 1 ≤ (n_nodes : Int32).toInt ∧ (n_nodes : Int32).toInt ≤ 12 := nr_lt_r h_x_75523 h_n_nodes c_75526_i (by decide) (by decide)
        refine lv_aload_n hx hb dX6_keepEven_13 rfl (lv_at hl 1 rfl) ?_
        refine va_get (D := D) (ci := 6) (v := .ref sv_keep) (C := RX6) (T := TX6) (N := 4) hx hb hts inlX6 hown hK hP 0 rfl rfl 2 (by decide) (hts (Cond.fieldLink RX6 9 "ChanceRings$Solver" "keep" "[I") qw_567) (fun _ h9 => h9) rfl dX6_keepEven_14 ?_
        refine lv_iload_n hx hb dX6_keepEven_17 rfl (lv_at hl 0 rfl) ?_
        refine lv_iconst (v := 0) hx hb dX6_keepEven_18 (by decide) ?_
        refine va_iast hx hb hK hP hD hS 9 0 rfl rfl (tr_in h_75527 (by decide) (by decide)) dX6_keepEven_19 (fun H locs hP hD hS => ?_)
        obtain ⟨f_75529, hP, hD⟩ : ∃ FX : Nat → Int32, va_P D vwCl [(wO6 sv n co sv_keep sv_scaled), (wO2 n n_nodes n_kind n_pay n_name n_ways n_held n_targets n_weights), (wI g n_kind 0 12 n_fkind), (wI g n_pay 0 12 n_fpay), (wI g n_ways 0 12 n_fways), (wI g n_held 0 12 n_fheld), (wI g n_targets 0 36 n_ftargets), (wO10 vs vs_part vsw), (wJ g vs_part 1 12 vsp), (wI g sv_keep 0 12 FX)] H ∧ va_D A [(wO6 sv n co sv_keep sv_scaled), (wO2 n n_nodes n_kind n_pay n_name n_ways n_held n_targets n_weights), (wI g n_kind 0 12 n_fkind), (wI g n_pay 0 12 n_fpay), (wI g n_ways 0 12 n_fways), (wI g n_held 0 12 n_fheld), (wI g n_targets 0 36 n_ftargets), (wO10 vs vs_part vsw), (wJ g vs_part 1 12 vsp), (wI g sv_keep 0 12 FX)] := ⟨_, hP, hD⟩
        have hP : va_P D vwCl [(wO6 sv n co sv_keep sv_scaled), (wO2 n n_nodes n_kind n_pay n_name n_ways n_held n_targets n_weights), (wI g n_kind 0 12 n_fkind), (wI g n_pay 0 12 n_fpay), (wI g n_ways 0 12 n_fways), (wI g n_held 0 12 n_fheld), (wI g n_targets 0 36 n_ftargets), (wO10 vs vs_part vsw), (wJ g vs_part 1 12 vsp), (wI g sv_keep 0 12 f_75529)] H := hP
        have hD : va_D A [(wO6 sv n co sv_keep sv_scaled), (wO2 n n_nodes n_kind n_pay n_name n_ways n_held n_targets n_weights), (wI g n_kind 0 12 n_fkind), (wI g n_pay 0 12 n_fpay), (wI g n_ways 0 12 n_fways), (wI g n_held 0 12 n_fheld), (wI g n_targets 0 36 n_ftargets), (wO10 vs vs_part vsw), (wJ g vs_part 1 12 vsp), (wI g sv_keep 0 12 f_75529)] := hD
        refine lv_iconst (v := 0) hx hb dX6_keepEven_20 (by decide) ?_
        refine lv_istore_n (lv' := [(3, .int 0), (2, .int x_75523), (0, .ref sv), (1, .ref vs)]) hx hb dX6_keepEven_21 rfl hl (by decide) rfl (fun ls hl => ?_)
        have lp_75630 : ∀ (n_75630 : Nat) (x_75628 : Int32) (f_75629 : Nat → Int32) (H : Heap) (locs : List Loc) (ls : Array Slot), (0 ≤ (x_75628 : Int32).toInt ∧ (x_75628 : Int32).toInt ≤ 3) → (3 - x_75628.toInt < (n_75630 : Int)) → va_P D vwCl [(wO6 sv n co sv_keep sv_scaled), (wO2 n n_nodes n_kind n_pay n_name n_ways n_held n_targets n_weights), (wI g n_kind 0 12 n_fkind), (wI g n_pay 0 12 n_fpay), (wI g n_ways 0 12 n_fways), (wI g n_held 0 12 n_fheld), (wI g n_targets 0 36 n_ftargets), (wO10 vs vs_part vsw), (wJ g vs_part 1 12 vsp), (wI g sv_keep 0 12 f_75629)] H → va_D A [(wO6 sv n co sv_keep sv_scaled), (wO2 n n_nodes n_kind n_pay n_name n_ways n_held n_targets n_weights), (wI g n_kind 0 12 n_fkind), (wI g n_pay 0 12 n_fpay), (wI g n_ways 0 12 n_fways), (wI g n_held 0 12 n_fheld), (wI g n_targets 0 36 n_ftargets), (wO10 vs vs_part vsw), (wJ g vs_part 1 12 vsp), (wI g sv_keep 0 12 f_75629)] → va_S A s.heap H locs → lv_has ls 4 [(3, .int x_75628), (2, .int x_75523), (0, .ref sv), (1, .ref vs)] → W p l e (headSpec (.code yX6_keepEven cX6_keepEven 4 none :: wsL_law) ({ frames := 1, cells := 0, slots := 0, locals := 22 })).room s m args below meth c H locs 0 0 (MQ below (va_Qv (fun (_ : Unit) => True) (fun _ t => ∃ okp : Nat → Int32, va_P D vwCl [(wO6 sv n co sv_keep sv_scaled), (wO2 n n_nodes n_kind n_pay n_name n_ways n_held n_targets n_weights), (wI g n_kind 0 12 n_fkind), (wI g n_pay 0 12 n_fpay), (wI g n_ways 0 12 n_fways), (wI g n_held 0 12 n_fheld), (wI g n_targets 0 36 n_ftargets), (wO10 vs vs_part vsw), (wJ g vs_part 1 12 vsp), (wI g sv_keep 0 12 okp)] t.heap ∧ va_D A [(wO6 sv n co sv_keep sv_scaled), (wO2 n n_nodes n_kind n_pay n_name n_ways n_held n_targets n_weights), (wI g n_kind 0 12 n_fkind), (wI g n_pay 0 12 n_fpay), (wI g n_ways 0 12 n_fways), (wI g n_held 0 12 n_fheld), (wI g n_targets 0 36 n_ftargets), (wO10 vs vs_part vsw), (wJ g vs_part 1 12 vsp), (wI g sv_keep 0 12 okp)]) A) args s 0 0 A) (F0 m 22 ls []) := by
          intro n_75630
          induction n_75630 with
          | zero =>
            intro x_75628 f_75629 H locs ls h_x_75628 hm_75630 hP hD hS hl
            exfalso; omega
          | succ n_75630 ih_75630 =>
            intro x_75628 f_75629 H locs ls h_x_75628 hm_75630 hP hD hS hl
            refine lv_iload_n hx hb dX6_keepEven_22 rfl (lv_at hl 0 rfl) ?_
            refine lv_aload_n hx hb dX6_keepEven_23 rfl (lv_at hl 2 rfl) ?_
            refine va_get (D := D) (ci := 6) (v := .ref n) (C := RX6) (T := TX6) (N := 4) hx hb hts inlX6 hown hK hP 0 rfl rfl 0 (by decide) (hts (Cond.fieldLink RX6 19 "ChanceRings$Solver" "net" "LChanceRings$Net;") qw_528) (fun _ h9 => h9) rfl dX6_keepEven_24 ?_
            refine va_get (D := D) (ci := 2) (v := .ref n_ways) (C := RX2) (T := TX2) (N := 8) hx hb hts inlX2 hown hK hP 1 rfl rfl 4 (by decide) (hts (Cond.fieldLink RX6 68 "ChanceRings$Net" "ways" "[I") qw_532) (fun _ h9 => h9) rfl dX6_keepEven_27 ?_
            refine lv_iload_n hx hb dX6_keepEven_30 rfl (lv_at hl 1 rfl) ?_
            refine va_iald hx hb hK hP 4 0 rfl rfl (tr_in h_75527 (by decide) (by decide)) dX6_keepEven_31 ?_
            refine lv_topi (fun v_75631 v_75631_e => ?_)
            have h_v_75631 : 0 ≤ (v_75631 : Int32).toInt ∧ (v_75631 : Int32).toInt ≤ 3 := by rw [v_75631_e]; exact h_n_fways _
            refine lv_icmp_ge (tgt := 89) hx hb dX6_keepEven_32 (by decide) (fun c_75632 => ?_) (fun c_75632 => ?_)
            · skip
              obtain ⟨v_75635, v_75635_e⟩ : ∃ y : Int32, y = x_75523 + Int32.ofInt 1 := ⟨_, rfl⟩
              have h_v_75635 : 1 ≤ (v_75635 : Int32).toInt ∧ (v_75635 : Int32).toInt ≤ 12 := by rw [v_75635_e]; exact tr_add h_75527 (⟨by decide, by decide⟩ : 1 ≤ (Int32.ofInt 1 : Int32).toInt ∧ (Int32.ofInt 1 : Int32).toInt ≤ 1) (by decide) (by decide) (by decide) (by decide)
              have q_v_75635 : v_75635.toInt = x_75523.toInt + 1 := by rw [v_75635_e]; exact tr_addE h_75527 (⟨by decide, by decide⟩ : 1 ≤ (Int32.ofInt 1 : Int32).toInt ∧ (Int32.ofInt 1 : Int32).toInt ≤ 1) (by decide) (by decide)
              refine lv_iinc (v := v_75635) (lv' := [(2, .int v_75635), (3, .int x_75628), (0, .ref sv), (1, .ref vs)]) hx hb dX6_keepEven_89 hl (k := 1) rfl v_75635_e.symm (by decide) rfl (fun ls hl => ?_)
              refine lv_goto (tgt := 2) hx hb dX6_keepEven_92 (by decide) ?_
              exact ih_75525 v_75635 f_75629 H _ ls (tr_w h_v_75635 (by decide) (by decide)) (by omega) (hP.sub [0, 1, 2, 3, 4, 5, 6, 7, 8, 9] rfl) (hD.sub [0, 1, 2, 3, 4, 5, 6, 7, 8, 9] (by decide) rfl) hS (lv_sub hl [0, 2, 3] rfl)
            · skip
              have c_75632_i := Int32.lt_iff_toInt_lt.mp (Int32.not_le.mp c_75632)
              have h_75633 : 0 ≤ (x_75628 : Int32).toInt ∧ (x_75628 : Int32).toInt ≤ 2 := nr_lt_l h_x_75628 h_v_75631 c_75632_i (by decide) (by decide)
              have h_75634 : 1 ≤ (v_75631 : Int32).toInt ∧ (v_75631 : Int32).toInt ≤ 3 := nr_lt_r h_x_75628 h_v_75631 c_75632_i (by decide) (by decide)
              refine lv_aload_n hx hb dX6_keepEven_35 rfl (lv_at hl 2 rfl) ?_
              refine va_get (D := D) (ci := 6) (v := .ref n) (C := RX6) (T := TX6) (N := 4) hx hb hts inlX6 hown hK hP 0 rfl rfl 0 (by decide) (hts (Cond.fieldLink RX6 19 "ChanceRings$Solver" "net" "LChanceRings$Net;") qw_528) (fun _ h9 => h9) rfl dX6_keepEven_36 ?_
              refine lv_iload_n hx hb dX6_keepEven_39 rfl (lv_at hl 1 rfl) ?_
              refine lv_iload_n hx hb dX6_keepEven_40 rfl (lv_at hl 0 rfl) ?_
              have hPc := hP.sub (ws' := [(wO2 n n_nodes n_kind n_pay n_name n_ways n_held n_targets n_weights), (wI g n_held 0 12 n_fheld)]) [1, 5] rfl
              refine vp_callSi (va_Run.run (va_runV (As := [.int x_75523, .int x_75628]) (rest := []) ⟨hx, hb, hml, hown, hts⟩ (c_X2_canTake l D g n x_75523 x_75628 n_nodes n_kind n_pay n_name n_ways n_held n_targets n_weights n_fheld (tr_w h_75527 (by decide) (by decide)) (tr_w h_75528 (by decide) (by decide)) (tr_wa h_n_fheld (by decide) (by decide))) (cwV 2 hts (tz_gV qw_568 qw_320 qw_321 qw_322 qw_323) rfl rfl rfl (by decide +kernel) ⟨Nat.le_of_ble_eq_true rfl, Nat.le_of_ble_eq_true rfl⟩) ⟨tz_blS, va_recv hK hPc (ci := 2) (q0 := 0) rfl rfl, tz_preS hPc hK⟩ rfl rfl hl.1 rfl (lv_room (Nat.le_of_ble_eq_true rfl)) dX6_keepEven_41 ⟨Nat.le_of_ble_eq_true rfl, Nat.le_of_ble_eq_true rfl⟩)) (fun r_75636 hw => ?_)
              have hw_75637 : 0 ≤ (r_75636 : Int32).toInt ∧ (r_75636 : Int32).toInt ≤ 1 := hw
              refine lv_if_eq (tgt := 83) hx hb dX6_keepEven_44 (by decide) (fun c_75638 => ?_) (fun c_75638 => ?_)
              · skip
                have c_75638_i : (r_75636 : Int32).toInt = (0 : Int32).toInt := congrArg Int32.toInt c_75638
                have h_75639 : 0 ≤ (r_75636 : Int32).toInt ∧ (r_75636 : Int32).toInt ≤ 0 := nr_eq_l hw_75637 (⟨by decide, by decide⟩ : 0 ≤ (0 : Int32).toInt ∧ (0 : Int32).toInt ≤ 0) c_75638_i (by decide) (by decide)
                obtain ⟨v_75641, v_75641_e⟩ : ∃ y : Int32, y = x_75628 + Int32.ofInt 1 := ⟨_, rfl⟩
                have h_v_75641 : 1 ≤ (v_75641 : Int32).toInt ∧ (v_75641 : Int32).toInt ≤ 3 := by rw [v_75641_e]; exact tr_add h_75633 (⟨by decide, by decide⟩ : 1 ≤ (Int32.ofInt 1 : Int32).toInt ∧ (Int32.ofInt 1 : Int32).toInt ≤ 1) (by decide) (by decide) (by decide) (by decide)
                have q_v_75641 : v_75641.toInt = x_75628.toInt + 1 := by rw [v_75641_e]; exact tr_addE h_75633 (⟨by decide, by decide⟩ : 1 ≤ (Int32.ofInt 1 : Int32).toInt ∧ (Int32.ofInt 1 : Int32).toInt ≤ 1) (by decide) (by decide)
                refine lv_iinc (v := v_75641) (lv' := [(3, .int v_75641), (2, .int x_75523), (0, .ref sv), (1, .ref vs)]) hx hb dX6_keepEven_83 hl (k := 0) rfl v_75641_e.symm (by decide) rfl (fun ls hl => ?_)
                refine lv_goto (tgt := 22) hx hb dX6_keepEven_86 (by decide) ?_
                exact ih_75630 v_75641 f_75629 H _ ls (tr_w h_v_75641 (by decide) (by decide)) (by (first | (clear h_n_nodes h_x_75523 c_75526_i h_75527 h_75528 hw_75637 c_75638_i h_75639; omega) | omega)) (hP.sub [0, 1, 2, 3, 4, 5, 6, 7, 8, 9] rfl) (hD.sub [0, 1, 2, 3, 4, 5, 6, 7, 8, 9] (by decide) rfl) hS (lv_sub hl [0, 1, 2, 3] rfl)
              · skip
                have c_75638_i : ¬ (r_75636 : Int32).toInt = (0 : Int32).toInt := (fun q => c_75638 (Int32.toInt_inj.mp q))
                have h_75640 : 1 ≤ (r_75636 : Int32).toInt ∧ (r_75636 : Int32).toInt ≤ 1 := nr_ne_l hw_75637 (⟨by decide, by decide⟩ : 0 ≤ (0 : Int32).toInt ∧ (0 : Int32).toInt ≤ 0) c_75638_i (by decide) (by decide)
                refine lv_aload_n hx hb dX6_keepEven_47 rfl (lv_at hl 3 rfl) ?_
                refine va_get (D := D) (ci := 10) (v := .ref vs_part) (C := RX10) (T := TX10) (N := 2) hx hb hts inlX10 hown hK hP 7 rfl rfl 0 (by decide) (hts (Cond.fieldLink RX6 71 "ChanceRings$Values" "part" "[J") qw_533) (fun _ h9 => h9) rfl dX6_keepEven_48 ?_
                refine lv_aload_n hx hb dX6_keepEven_51 rfl (lv_at hl 2 rfl) ?_
                refine va_get (D := D) (ci := 6) (v := .ref n) (C := RX6) (T := TX6) (N := 4) hx hb hts inlX6 hown hK hP 0 rfl rfl 0 (by decide) (hts (Cond.fieldLink RX6 19 "ChanceRings$Solver" "net" "LChanceRings$Net;") qw_528) (fun _ h9 => h9) rfl dX6_keepEven_52 ?_
                refine lv_iload_n hx hb dX6_keepEven_55 rfl (lv_at hl 1 rfl) ?_
                refine lv_iload_n hx hb dX6_keepEven_56 rfl (lv_at hl 0 rfl) ?_
                have hPc := hP.sub (ws' := [(wO2 n n_nodes n_kind n_pay n_name n_ways n_held n_targets n_weights), (wI g n_targets 0 36 n_ftargets)]) [1, 6] rfl
                refine vp_callSi (va_Run.run (va_runV (As := [.int x_75523, .int x_75628]) (rest := [.ref vs_part]) ⟨hx, hb, hml, hown, hts⟩ (c_X2_target l D g n x_75523 x_75628 n_nodes n_kind n_pay n_name n_ways n_held n_targets n_weights n_ftargets (tr_w h_75527 (by decide) (by decide)) (tr_w h_75633 (by decide) (by decide)) (tr_w h_75528 (by decide) (by decide)) (tr_wa h_n_ftargets (by decide) (by decide))) (cwV 2 hts (tz_gV qw_534 qw_325 qw_326 qw_322 qw_327) rfl rfl rfl (by decide +kernel) ⟨Nat.le_of_ble_eq_true rfl, Nat.le_of_ble_eq_true rfl⟩) ⟨tz_blS, va_recv hK hPc (ci := 2) (q0 := 0) rfl rfl, tz_preS hPc hK⟩ rfl rfl hl.1 rfl (lv_room (Nat.le_of_ble_eq_true rfl)) dX6_keepEven_57 ⟨Nat.le_of_ble_eq_true rfl, Nat.le_of_ble_eq_true rfl⟩)) (fun r_75642 hw => ?_)
                have hw_75643 : 0 ≤ (r_75642 : Int32).toInt ∧ (r_75642 : Int32).toInt ≤ 11 := hw
                refine va_lald hx hb hK hP 8 1 rfl rfl (tr_in hw_75643 (by decide) (by decide)) dX6_keepEven_60 ?_
                refine lv_topl (fun w_75644 _ => ?_)
                refine lv_aload_n hx hb dX6_keepEven_61 rfl (lv_at hl 3 rfl) ?_
                refine va_get (D := D) (ci := 10) (v := .ref vs_part) (C := RX10) (T := TX10) (N := 2) hx hb hts inlX10 hown hK hP 7 rfl rfl 0 (by decide) (hts (Cond.fieldLink RX6 71 "ChanceRings$Values" "part" "[J") qw_533) (fun _ h9 => h9) rfl dX6_keepEven_62 ?_
                refine lv_iload_n hx hb dX6_keepEven_65 rfl (lv_at hl 1 rfl) ?_
                refine va_lald hx hb hK hP 8 1 rfl rfl (tr_in h_75527 (by decide) (by decide)) dX6_keepEven_66 ?_
                refine lv_topl (fun w_75645 _ => ?_)
                refine W.lcmp hx hb dX6_keepEven_67 ?_
                refine lv_topi (fun v_75646 v_75646_e => ?_)
                have h_v_75646 : (-1) ≤ (v_75646 : Int32).toInt ∧ (v_75646 : Int32).toInt ≤ 1 := by rw [v_75646_e]; exact tr_cmp _ _
                refine lv_if_ne (tgt := 83) hx hb dX6_keepEven_68 (by decide) (fun c_75647 => ?_) (fun c_75647 => ?_)
                · skip
                  obtain ⟨v_75649, v_75649_e⟩ : ∃ y : Int32, y = x_75628 + Int32.ofInt 1 := ⟨_, rfl⟩
                  have h_v_75649 : 1 ≤ (v_75649 : Int32).toInt ∧ (v_75649 : Int32).toInt ≤ 3 := by rw [v_75649_e]; exact tr_add h_75633 (⟨by decide, by decide⟩ : 1 ≤ (Int32.ofInt 1 : Int32).toInt ∧ (Int32.ofInt 1 : Int32).toInt ≤ 1) (by decide) (by decide) (by decide) (by decide)
                  have q_v_75649 : v_75649.toInt = x_75628.toInt + 1 := by rw [v_75649_e]; exact tr_addE h_75633 (⟨by decide, by decide⟩ : 1 ≤ (Int32.ofInt 1 : Int32).toInt ∧ (Int32.ofInt 1 : Int32).toInt ≤ 1) (by decide) (by decide)
                  refine lv_iinc (v := v_75649) (lv' := [(3, .int v_75649), (2, .int x_75523), (0, .ref sv), (1, .ref vs)]) hx hb dX6_keepEven_83 hl (k := 0) rfl v_75649_e.symm (by decide) rfl (fun ls hl => ?_)
                  refine lv_goto (tgt := 22) hx hb dX6_keepEven_86 (by decide) ?_
                  exact ih_75630 v_75649 f_75629 H _ ls (tr_w h_v_75649 (by decide) (by decide)) (by (first | (clear h_n_nodes h_x_75523 c_75526_i h_75527 h_75528 hw_75637 c_75638_i h_75640 hw_75643 h_v_75646; omega) | omega)) (hP.sub [0, 1, 2, 3, 4, 5, 6, 7, 8, 9] rfl) (hD.sub [0, 1, 2, 3, 4, 5, 6, 7, 8, 9] (by decide) rfl) hS (lv_sub hl [0, 1, 2, 3] rfl)
                · skip
                  have c_75647_i : (v_75646 : Int32).toInt = (0 : Int32).toInt := congrArg Int32.toInt c_75647
                  have h_75648 : 0 ≤ (v_75646 : Int32).toInt ∧ (v_75646 : Int32).toInt ≤ 0 := nr_eq_l h_v_75646 (⟨by decide, by decide⟩ : 0 ≤ (0 : Int32).toInt ∧ (0 : Int32).toInt ≤ 0) c_75647_i (by decide) (by decide)
                  refine lv_aload_n hx hb dX6_keepEven_71 rfl (lv_at hl 2 rfl) ?_
                  refine va_get (D := D) (ci := 6) (v := .ref sv_keep) (C := RX6) (T := TX6) (N := 4) hx hb hts inlX6 hown hK hP 0 rfl rfl 2 (by decide) (hts (Cond.fieldLink RX6 9 "ChanceRings$Solver" "keep" "[I") qw_567) (fun _ h9 => h9) rfl dX6_keepEven_72 ?_
                  refine lv_iload_n hx hb dX6_keepEven_75 rfl (lv_at hl 1 rfl) ?_
                  refine lv_dup2_11 hx hb dX6_keepEven_76 rfl rfl ?_
                  refine va_iald hx hb hK hP 9 0 rfl rfl (tr_in h_75527 (by decide) (by decide)) dX6_keepEven_77 ?_
                  refine lv_topi (fun v_75650 v_75650_e => ?_)
                  refine lv_iconst (v := 1) hx hb dX6_keepEven_78 (by decide) ?_
                  refine lv_iload_n hx hb dX6_keepEven_79 rfl (lv_at hl 0 rfl) ?_
                  refine lv_ishl hx hb dX6_keepEven_80 ?_
                  refine lv_topi (fun v_75651 v_75651_e => ?_)
                  refine lv_ior hx hb dX6_keepEven_81 ?_
                  refine lv_topi (fun v_75652 v_75652_e => ?_)
                  refine va_iast hx hb hK hP hD hS 9 0 rfl rfl (tr_in h_75527 (by decide) (by decide)) dX6_keepEven_82 (fun H locs hP hD hS => ?_)
                  obtain ⟨f_75653, hP, hD⟩ : ∃ FX : Nat → Int32, va_P D vwCl [(wO6 sv n co sv_keep sv_scaled), (wO2 n n_nodes n_kind n_pay n_name n_ways n_held n_targets n_weights), (wI g n_kind 0 12 n_fkind), (wI g n_pay 0 12 n_fpay), (wI g n_ways 0 12 n_fways), (wI g n_held 0 12 n_fheld), (wI g n_targets 0 36 n_ftargets), (wO10 vs vs_part vsw), (wJ g vs_part 1 12 vsp), (wI g sv_keep 0 12 FX)] H ∧ va_D A [(wO6 sv n co sv_keep sv_scaled), (wO2 n n_nodes n_kind n_pay n_name n_ways n_held n_targets n_weights), (wI g n_kind 0 12 n_fkind), (wI g n_pay 0 12 n_fpay), (wI g n_ways 0 12 n_fways), (wI g n_held 0 12 n_fheld), (wI g n_targets 0 36 n_ftargets), (wO10 vs vs_part vsw), (wJ g vs_part 1 12 vsp), (wI g sv_keep 0 12 FX)] := ⟨_, hP, hD⟩
                  have hP : va_P D vwCl [(wO6 sv n co sv_keep sv_scaled), (wO2 n n_nodes n_kind n_pay n_name n_ways n_held n_targets n_weights), (wI g n_kind 0 12 n_fkind), (wI g n_pay 0 12 n_fpay), (wI g n_ways 0 12 n_fways), (wI g n_held 0 12 n_fheld), (wI g n_targets 0 36 n_ftargets), (wO10 vs vs_part vsw), (wJ g vs_part 1 12 vsp), (wI g sv_keep 0 12 f_75653)] H := hP
                  have hD : va_D A [(wO6 sv n co sv_keep sv_scaled), (wO2 n n_nodes n_kind n_pay n_name n_ways n_held n_targets n_weights), (wI g n_kind 0 12 n_fkind), (wI g n_pay 0 12 n_fpay), (wI g n_ways 0 12 n_fways), (wI g n_held 0 12 n_fheld), (wI g n_targets 0 36 n_ftargets), (wO10 vs vs_part vsw), (wJ g vs_part 1 12 vsp), (wI g sv_keep 0 12 f_75653)] := hD
                  obtain ⟨v_75654, v_75654_e⟩ : ∃ y : Int32, y = x_75628 + Int32.ofInt 1 := ⟨_, rfl⟩
                  have h_v_75654 : 1 ≤ (v_75654 : Int32).toInt ∧ (v_75654 : Int32).toInt ≤ 3 := by rw [v_75654_e]; exact tr_add h_75633 (⟨by decide, by decide⟩ : 1 ≤ (Int32.ofInt 1 : Int32).toInt ∧ (Int32.ofInt 1 : Int32).toInt ≤ 1) (by decide) (by decide) (by decide) (by decide)
                  have q_v_75654 : v_75654.toInt = x_75628.toInt + 1 := by rw [v_75654_e]; exact tr_addE h_75633 (⟨by decide, by decide⟩ : 1 ≤ (Int32.ofInt 1 : Int32).toInt ∧ (Int32.ofInt 1 : Int32).toInt ≤ 1) (by decide) (by decide)
                  refine lv_iinc (v := v_75654) (lv' := [(3, .int v_75654), (2, .int x_75523), (0, .ref sv), (1, .ref vs)]) hx hb dX6_keepEven_83 hl (k := 0) rfl v_75654_e.symm (by decide) rfl (fun ls hl => ?_)
                  refine lv_goto (tgt := 22) hx hb dX6_keepEven_86 (by decide) ?_
                  exact ih_75630 v_75654 f_75653 H _ ls (tr_w h_v_75654 (by decide) (by decide)) (by (first | (clear h_n_nodes h_x_75523 c_75526_i h_75527 h_75528 hw_75637 c_75638_i h_75640 hw_75643 h_v_75646 c_75647_i h_75648; omega) | omega)) (hP.sub [0, 1, 2, 3, 4, 5, 6, 7, 8, 9] rfl) (hD.sub [0, 1, 2, 3, 4, 5, 6, 7, 8, 9] (by decide) rfl) hS (lv_sub hl [0, 1, 2, 3] rfl)
        exact lp_75630 4 0 f_75529 H _ ls (⟨by decide, by decide⟩ : 0 ≤ (0 : Int32).toInt ∧ (0 : Int32).toInt ≤ 3) (by decide) (hP.sub [0, 1, 2, 3, 4, 5, 6, 7, 8, 9] rfl) (hD.sub [0, 1, 2, 3, 4, 5, 6, 7, 8, 9] (by decide) rfl) hS (lv_sub hl [0, 1, 2, 3] rfl)
  exact lp_75525 13 0 kpf s.heap _ ls (⟨by decide, by decide⟩ : 0 ≤ (0 : Int32).toInt ∧ (0 : Int32).toInt ≤ 12) (by decide) (hP.sub [0, 1, 2, 3, 4, 5, 6, 7, 8, 9] rfl) (hD.sub [0, 1, 2, 3, 4, 5, 6, 7, 8, 9] (by decide) rfl) hS (lv_sub hl [0, 1, 2] rfl)
set_option maxHeartbeats 4000000 in
set_option maxRecDepth 100000 in
theorem c_X6_isBrought (l : Launch) (D : va_G) (g : Nat → ClassId) (sv : Nat) (p0 : Int32) (p1 : Int32) (vs : Nat) (n : Nat) (co : Nat) (sv_keep : Nat) (sv_scaled : Nat) (n_nodes : Int32) (n_kind : Nat) (n_pay : Nat) (n_name : Nat) (n_ways : Nat) (n_held : Nat) (n_targets : Nat) (n_weights : Nat) (n_fkind : Nat → Int32) (n_fpay : Nat → Int32) (n_fways : Nat → Int32) (n_fheld : Nat → Int32) (n_ftargets : Nat → Int32) (vs_part : Nat) (vsw : Int64) (vsp : Nat → Int64) (kpf : Nat → Int32) (h_p0 : 0 ≤ (p0 : Int32).toInt ∧ (p0 : Int32).toInt ≤ 11) (h_n_nodes : 0 ≤ (n_nodes : Int32).toInt ∧ (n_nodes : Int32).toInt ≤ 12) (h_n_fkind : ∀ j : Nat, 0 ≤ (n_fkind j).toInt ∧ (n_fkind j).toInt ≤ 3) (h_n_fways : ∀ j : Nat, 0 ≤ (n_fways j).toInt ∧ (n_fways j).toInt ≤ 3) (h_n_fheld : ∀ j : Nat, (-1) ≤ (n_fheld j).toInt ∧ (n_fheld j).toInt ≤ 2) (h_n_ftargets : ∀ j : Nat, 0 ≤ (n_ftargets j).toInt ∧ (n_ftargets j).toInt ≤ 11) : Met l yX6_isBrought (.code yX6_isBrought cX6_isBrought 9 (some .boolean) :: wsL_law) ({ frames := 1, cells := 0, slots := 0, locals := 22 }) (va_Pc [.ref sv, .int p0, .int p1, .ref vs] (fun U => va_P D vwCl [(wO6 sv n co sv_keep sv_scaled), (wO2 n n_nodes n_kind n_pay n_name n_ways n_held n_targets n_weights), (wI g n_kind 0 12 n_fkind), (wI g n_pay 0 12 n_fpay), (wI g n_ways 0 12 n_fways), (wI g n_held 0 12 n_fheld), (wI g n_targets 0 36 n_ftargets), (wO10 vs vs_part vsw), (wJ g vs_part 1 12 vsp), (wI g sv_keep 0 12 kpf)] U.heap ∧ va_K D vwCl (TY g) U)) (vp_Si (fun r => 0 ≤ (r : Int32).toInt ∧ (r : Int32).toInt ≤ 1)) 0 0 (fun _ => False) := by
  refine Met.ofW (cc := cX6_isBrought) (maxL := 9) (ret := (some .boolean)) (by decide) rfl ?_
  intro p e s m args below meth c s₁ B hml hv
  obtain ⟨ha, hP, hK⟩ := hv
  have hx := B.exec
  have hb := B.bytes
  have hr := B.returns
  have hts0 := atoms_spec (ws := (.code yX6_isBrought cX6_isBrought 9 (some .boolean) :: wsL_law)) B.pre
  have hts : ∀ w ∈ wsL_law, w.before args s = true := fun w h => hts0 w (List.mem_cons_of_mem _ h)
  have hown : s.vm.findClass RX6 = some m.cls := findClass_of_methodNamed B.named
  have hlocks := B.notSynchronized
  have hP : va_P D vwCl [(wO6 sv n co sv_keep sv_scaled), (wO2 n n_nodes n_kind n_pay n_name n_ways n_held n_targets n_weights), (wI g n_kind 0 12 n_fkind), (wI g n_pay 0 12 n_fpay), (wI g n_ways 0 12 n_fways), (wI g n_held 0 12 n_fheld), (wI g n_targets 0 36 n_ftargets), (wO10 vs vs_part vsw), (wJ g vs_part 1 12 vsp), (wI g sv_keep 0 12 kpf)] s.heap := hP
  refine W.eq (g2 := entryFrame m ([.ref sv, .int p0, .int p1, .ref vs] : List Value).toArray 9) (by rw [ha]) ?_
  have hl := lv_entry ([.ref sv, .int p0, .int p1, .ref vs]) (n := 9) (Nat.le_of_ble_eq_true rfl)
  rw [lg_entry_eq]
  generalize (lg_sl ([.ref sv, .int p0, .int p1, .ref vs]) ++ List.replicate (9 - (lg_sl ([.ref sv, .int p0, .int p1, .ref vs])).length) Slot.unset).toArray = ls at hl ⊢
  have hl : lv_has ls 9 [(0, .ref sv), (1, .int p0), (2, .int p1), (3, .ref vs)] := hl
  refine lv_iconst (v := 0) hx hb dX6_isBrought_0 (by decide) ?_
  refine lv_istore (lv' := [(4, .int 0), (0, .ref sv), (1, .int p0), (2, .int p1), (3, .ref vs)]) hx hb dX6_isBrought_1 hl (by decide) rfl (fun ls hl => ?_)
  refine lv_iconst (v := 1) hx hb dX6_isBrought_3 (by decide) ?_
  refine lv_istore (lv' := [(5, .int 1), (4, .int 0), (0, .ref sv), (1, .int p0), (2, .int p1), (3, .ref vs)]) hx hb dX6_isBrought_4 hl (by decide) rfl (fun ls hl => ?_)
  refine lv_iconst (v := 0) hx hb dX6_isBrought_6 (by decide) ?_
  refine lv_istore (lv' := [(6, .int 0), (5, .int 1), (4, .int 0), (0, .ref sv), (1, .int p0), (2, .int p1), (3, .ref vs)]) hx hb dX6_isBrought_7 hl (by decide) rfl (fun ls hl => ?_)
  have lp_75871 : ∀ (n_75871 : Nat) (x_75868 : Int32) (x_75869 : Int32) (x_75870 : Int32) (ls : Array Slot), (0 ≤ (x_75868 : Int32).toInt ∧ (x_75868 : Int32).toInt ≤ 3) → (0 ≤ (x_75869 : Int32).toInt ∧ (x_75869 : Int32).toInt ≤ 1) → (0 ≤ (x_75870 : Int32).toInt ∧ (x_75870 : Int32).toInt ≤ 1) → (3 - x_75868.toInt < (n_75871 : Int)) → lv_has ls 9 [(6, .int x_75868), (5, .int x_75869), (4, .int x_75870), (0, .ref sv), (1, .int p0), (2, .int p1), (3, .ref vs)] → W p l e (headSpec (.code yX6_isBrought cX6_isBrought 9 (some .boolean) :: wsL_law) ({ frames := 1, cells := 0, slots := 0, locals := 22 })).room s m args below meth c s.heap [] 0 0 (MQ below (vp_Si (fun r => 0 ≤ (r : Int32).toInt ∧ (r : Int32).toInt ≤ 1)) args s 0 0 (fun _ => False)) (F0 m 9 ls []) := by
    intro n_75871
    induction n_75871 with
    | zero =>
      intro x_75868 x_75869 x_75870 ls h_x_75868 h_x_75869 h_x_75870 hm_75871 hl
      exfalso; omega
    | succ n_75871 ih_75871 =>
      intro x_75868 x_75869 x_75870 ls h_x_75868 h_x_75869 h_x_75870 hm_75871 hl
      refine lv_iload hx hb dX6_isBrought_9 (lv_at hl 0 rfl) ?_
      refine lv_aload_n hx hb dX6_isBrought_11 rfl (lv_at hl 3 rfl) ?_
      refine va_get (D := D) (ci := 6) (v := .ref n) (C := RX6) (T := TX6) (N := 4) hx hb hts inlX6 hown hK hP 0 rfl rfl 0 (by decide) (hts (Cond.fieldLink RX6 19 "ChanceRings$Solver" "net" "LChanceRings$Net;") qw_528) (fun _ h9 => h9) rfl dX6_isBrought_12 ?_
      refine va_get (D := D) (ci := 2) (v := .ref n_ways) (C := RX2) (T := TX2) (N := 8) hx hb hts inlX2 hown hK hP 1 rfl rfl 4 (by decide) (hts (Cond.fieldLink RX6 68 "ChanceRings$Net" "ways" "[I") qw_532) (fun _ h9 => h9) rfl dX6_isBrought_15 ?_
      refine lv_iload_n hx hb dX6_isBrought_18 rfl (lv_at hl 4 rfl) ?_
      refine va_iald hx hb hK hP 4 0 rfl rfl (tr_in h_p0 (by decide) (by decide)) dX6_isBrought_19 ?_
      refine lv_topi (fun v_75872 v_75872_e => ?_)
      have h_v_75872 : 0 ≤ (v_75872 : Int32).toInt ∧ (v_75872 : Int32).toInt ≤ 3 := by rw [v_75872_e]; exact h_n_fways _
      refine lv_icmp_ge (tgt := 133) hx hb dX6_isBrought_20 (by decide) (fun c_75873 => ?_) (fun c_75873 => ?_)
      · skip
        refine lv_aload_n hx hb dX6_isBrought_133 rfl (lv_at hl 3 rfl) ?_
        refine va_get (D := D) (ci := 6) (v := .ref n) (C := RX6) (T := TX6) (N := 4) hx hb hts inlX6 hown hK hP 0 rfl rfl 0 (by decide) (hts (Cond.fieldLink RX6 19 "ChanceRings$Solver" "net" "LChanceRings$Net;") qw_528) (fun _ h9 => h9) rfl dX6_isBrought_134 ?_
        refine va_get (D := D) (ci := 2) (v := .ref n_kind) (C := RX2) (T := TX2) (N := 8) hx hb hts inlX2 hown hK hP 1 rfl rfl 1 (by decide) (hts (Cond.fieldLink RX6 61 "ChanceRings$Net" "kind" "[I") qw_531) (fun _ h9 => h9) rfl dX6_isBrought_137 ?_
        refine lv_iload_n hx hb dX6_isBrought_140 rfl (lv_at hl 4 rfl) ?_
        refine va_iald hx hb hK hP 2 0 rfl rfl (tr_in h_p0 (by decide) (by decide)) dX6_isBrought_141 ?_
        refine lv_topi (fun v_75876 v_75876_e => ?_)
        have h_v_75876 : 0 ≤ (v_75876 : Int32).toInt ∧ (v_75876 : Int32).toInt ≤ 3 := by rw [v_75876_e]; exact h_n_fkind _
        refine lv_iconst (v := 2) hx hb dX6_isBrought_142 (by decide) ?_
        refine lv_icmp_ne (tgt := 164) hx hb dX6_isBrought_143 (by decide) (fun c_75877 => ?_) (fun c_75877 => ?_)
        · skip
          refine lv_iload hx hb dX6_isBrought_164 (lv_at hl 2 rfl) ?_
          exact W.zret (v := x_75870) hx hb hr (tr_z (tr_w h_x_75870 (by decide) (by decide))) (fun t ht hW => ⟨x_75870, rfl, (tr_w h_x_75870 (by decide) (by decide)), ht⟩) (fun _ h => nomatch h) dX6_isBrought_166
        · skip
          have c_75877_i : (v_75876 : Int32).toInt = (2 : Int32).toInt := congrArg Int32.toInt c_75877
          have h_75878 : 2 ≤ (v_75876 : Int32).toInt ∧ (v_75876 : Int32).toInt ≤ 2 := nr_eq_l h_v_75876 (⟨by decide, by decide⟩ : 2 ≤ (2 : Int32).toInt ∧ (2 : Int32).toInt ≤ 2) c_75877_i (by decide) (by decide)
          refine lv_iload hx hb dX6_isBrought_146 (lv_at hl 2 rfl) ?_
          refine lv_if_eq (tgt := 160) hx hb dX6_isBrought_148 (by decide) (fun c_75879 => ?_) (fun c_75879 => ?_)
          · skip
            have c_75879_i : (x_75870 : Int32).toInt = (0 : Int32).toInt := congrArg Int32.toInt c_75879
            have h_75880 : 0 ≤ (x_75870 : Int32).toInt ∧ (x_75870 : Int32).toInt ≤ 0 := nr_eq_l h_x_75870 (⟨by decide, by decide⟩ : 0 ≤ (0 : Int32).toInt ∧ (0 : Int32).toInt ≤ 0) c_75879_i (by decide) (by decide)
            refine lv_iconst (v := 0) hx hb dX6_isBrought_160 (by decide) ?_
            refine lv_goto (tgt := 166) hx hb dX6_isBrought_161 (by decide) ?_
            exact W.zret (v := 0) hx hb hr (by decide) (fun t ht hW => ⟨0, rfl, (⟨by decide, by decide⟩ : 0 ≤ (0 : Int32).toInt ∧ (0 : Int32).toInt ≤ 1), ht⟩) (fun _ h => nomatch h) dX6_isBrought_166
          · skip
            have c_75879_i : ¬ (x_75870 : Int32).toInt = (0 : Int32).toInt := (fun q => c_75879 (Int32.toInt_inj.mp q))
            have h_75881 : 1 ≤ (x_75870 : Int32).toInt ∧ (x_75870 : Int32).toInt ≤ 1 := nr_ne_l h_x_75870 (⟨by decide, by decide⟩ : 0 ≤ (0 : Int32).toInt ∧ (0 : Int32).toInt ≤ 0) c_75879_i (by decide) (by decide)
            refine lv_iload hx hb dX6_isBrought_151 (lv_at hl 1 rfl) ?_
            refine lv_if_eq (tgt := 160) hx hb dX6_isBrought_153 (by decide) (fun c_75882 => ?_) (fun c_75882 => ?_)
            · skip
              have c_75882_i : (x_75869 : Int32).toInt = (0 : Int32).toInt := congrArg Int32.toInt c_75882
              have h_75883 : 0 ≤ (x_75869 : Int32).toInt ∧ (x_75869 : Int32).toInt ≤ 0 := nr_eq_l h_x_75869 (⟨by decide, by decide⟩ : 0 ≤ (0 : Int32).toInt ∧ (0 : Int32).toInt ≤ 0) c_75882_i (by decide) (by decide)
              refine lv_iconst (v := 0) hx hb dX6_isBrought_160 (by decide) ?_
              refine lv_goto (tgt := 166) hx hb dX6_isBrought_161 (by decide) ?_
              exact W.zret (v := 0) hx hb hr (by decide) (fun t ht hW => ⟨0, rfl, (⟨by decide, by decide⟩ : 0 ≤ (0 : Int32).toInt ∧ (0 : Int32).toInt ≤ 1), ht⟩) (fun _ h => nomatch h) dX6_isBrought_166
            · skip
              have c_75882_i : ¬ (x_75869 : Int32).toInt = (0 : Int32).toInt := (fun q => c_75882 (Int32.toInt_inj.mp q))
              have h_75884 : 1 ≤ (x_75869 : Int32).toInt ∧ (x_75869 : Int32).toInt ≤ 1 := nr_ne_l h_x_75869 (⟨by decide, by decide⟩ : 0 ≤ (0 : Int32).toInt ∧ (0 : Int32).toInt ≤ 0) c_75882_i (by decide) (by decide)
              refine lv_iconst (v := 1) hx hb dX6_isBrought_156 (by decide) ?_
              refine lv_goto (tgt := 166) hx hb dX6_isBrought_157 (by decide) ?_
              exact W.zret (v := 1) hx hb hr (by decide) (fun t ht hW => ⟨1, rfl, (⟨by decide, by decide⟩ : 0 ≤ (1 : Int32).toInt ∧ (1 : Int32).toInt ≤ 1), ht⟩) (fun _ h => nomatch h) dX6_isBrought_166
      · skip
        have c_75873_i := Int32.lt_iff_toInt_lt.mp (Int32.not_le.mp c_75873)
        have h_75874 : 0 ≤ (x_75868 : Int32).toInt ∧ (x_75868 : Int32).toInt ≤ 2 := nr_lt_l h_x_75868 h_v_75872 c_75873_i (by decide) (by decide)
        have h_75875 : 1 ≤ (v_75872 : Int32).toInt ∧ (v_75872 : Int32).toInt ≤ 3 := nr_lt_r h_x_75868 h_v_75872 c_75873_i (by decide) (by decide)
        refine lv_aload_n hx hb dX6_isBrought_23 rfl (lv_at hl 3 rfl) ?_
        refine va_get (D := D) (ci := 6) (v := .ref n) (C := RX6) (T := TX6) (N := 4) hx hb hts inlX6 hown hK hP 0 rfl rfl 0 (by decide) (hts (Cond.fieldLink RX6 19 "ChanceRings$Solver" "net" "LChanceRings$Net;") qw_528) (fun _ h9 => h9) rfl dX6_isBrought_24 ?_
        refine lv_iload_n hx hb dX6_isBrought_27 rfl (lv_at hl 4 rfl) ?_
        refine lv_iload hx hb dX6_isBrought_28 (lv_at hl 0 rfl) ?_
        have hPc := hP.sub (ws' := [(wO2 n n_nodes n_kind n_pay n_name n_ways n_held n_targets n_weights), (wI g n_targets 0 36 n_ftargets)]) [1, 6] rfl
        refine vp_callSi (va_Run.run (va_runV (As := [.int p0, .int x_75868]) (rest := []) ⟨hx, hb, hml, hown, hts⟩ (c_X2_target l D g n p0 x_75868 n_nodes n_kind n_pay n_name n_ways n_held n_targets n_weights n_ftargets (tr_w h_p0 (by decide) (by decide)) (tr_w h_75874 (by decide) (by decide)) (tr_w h_n_nodes (by decide) (by decide)) (tr_wa h_n_ftargets (by decide) (by decide))) (cwV 2 hts (tz_gV qw_534 qw_325 qw_326 qw_322 qw_327) rfl rfl rfl (by decide +kernel) ⟨Nat.le_of_ble_eq_true rfl, Nat.le_of_ble_eq_true rfl⟩) ⟨tz_blS, va_recv hK hPc (ci := 2) (q0 := 0) rfl rfl, tz_preS hPc hK⟩ rfl rfl hl.1 rfl (lv_room (Nat.le_of_ble_eq_true rfl)) dX6_isBrought_30 ⟨Nat.le_of_ble_eq_true rfl, Nat.le_of_ble_eq_true rfl⟩)) (fun r_75885 hw => ?_)
        have hw_75886 : 0 ≤ (r_75885 : Int32).toInt ∧ (r_75885 : Int32).toInt ≤ 11 := hw
        refine lv_istore (lv' := [(7, .int r_75885), (6, .int x_75868), (5, .int x_75869), (4, .int x_75870), (0, .ref sv), (1, .int p0), (2, .int p1), (3, .ref vs)]) hx hb dX6_isBrought_33 hl (by decide) rfl (fun ls hl => ?_)
        refine lv_iload_n hx hb dX6_isBrought_35 rfl (lv_at hl 6 rfl) ?_
        refine lv_iload hx hb dX6_isBrought_36 (lv_at hl 0 rfl) ?_
        refine lv_ishr hx hb dX6_isBrought_38 ?_
        refine lv_topi (fun v_75887 v_75887_e => ?_)
        refine lv_iconst (v := 1) hx hb dX6_isBrought_39 (by decide) ?_
        refine lv_iand hx hb dX6_isBrought_40 ?_
        refine lv_topi (fun v_75888 v_75888_e => ?_)
        refine lv_if_eq (tgt := 48) hx hb dX6_isBrought_41 (by decide) (fun c_75889 => ?_) (fun c_75889 => ?_)
        · skip
          have h_75890 : 0 ≤ (v_75888 : Int32).toInt ∧ (v_75888 : Int32).toInt ≤ 0 := by rw [c_75889]; exact ⟨by decide, by decide⟩
          refine lv_iconst (v := 0) hx hb dX6_isBrought_48 (by decide) ?_
          refine lv_istore (lv' := [(8, .int 0), (7, .int r_75885), (6, .int x_75868), (5, .int x_75869), (4, .int x_75870), (0, .ref sv), (1, .int p0), (2, .int p1), (3, .ref vs)]) hx hb dX6_isBrought_49 hl (by decide) rfl (fun ls hl => ?_)
          refine lv_aload_n hx hb dX6_isBrought_51 rfl (lv_at hl 5 rfl) ?_
          refine va_get (D := D) (ci := 6) (v := .ref n) (C := RX6) (T := TX6) (N := 4) hx hb hts inlX6 hown hK hP 0 rfl rfl 0 (by decide) (hts (Cond.fieldLink RX6 19 "ChanceRings$Solver" "net" "LChanceRings$Net;") qw_528) (fun _ h9 => h9) rfl dX6_isBrought_52 ?_
          refine va_get (D := D) (ci := 2) (v := .ref n_kind) (C := RX2) (T := TX2) (N := 8) hx hb hts inlX2 hown hK hP 1 rfl rfl 1 (by decide) (hts (Cond.fieldLink RX6 61 "ChanceRings$Net" "kind" "[I") qw_531) (fun _ h9 => h9) rfl dX6_isBrought_55 ?_
          refine lv_iload_n hx hb dX6_isBrought_58 rfl (lv_at hl 6 rfl) ?_
          refine va_iald hx hb hK hP 2 0 rfl rfl (tr_in h_p0 (by decide) (by decide)) dX6_isBrought_59 ?_
          refine lv_topi (fun v_75891 v_75891_e => ?_)
          have h_v_75891 : 0 ≤ (v_75891 : Int32).toInt ∧ (v_75891 : Int32).toInt ≤ 3 := by rw [v_75891_e]; exact h_n_fkind _
          refine lv_iconst (v := 3) hx hb dX6_isBrought_60 (by decide) ?_
          refine lv_icmp_ne (tgt := 99) hx hb dX6_isBrought_61 (by decide) (fun c_75892 => ?_) (fun c_75892 => ?_)
          · skip
            have c_75892_i : ¬ (v_75891 : Int32).toInt = (3 : Int32).toInt := (fun q => c_75892 (Int32.toInt_inj.mp q))
            have h_75893 : 0 ≤ (v_75891 : Int32).toInt ∧ (v_75891 : Int32).toInt ≤ 2 := nr_ne_l h_v_75891 (⟨by decide, by decide⟩ : 3 ≤ (3 : Int32).toInt ∧ (3 : Int32).toInt ≤ 3) c_75892_i (by decide) (by decide)
            refine lv_aload_n hx hb dX6_isBrought_99 rfl (lv_at hl 5 rfl) ?_
            refine va_get (D := D) (ci := 6) (v := .ref sv_keep) (C := RX6) (T := TX6) (N := 4) hx hb hts inlX6 hown hK hP 0 rfl rfl 2 (by decide) (hts (Cond.fieldLink RX6 9 "ChanceRings$Solver" "keep" "[I") qw_567) (fun _ h9 => h9) rfl dX6_isBrought_100 ?_
            refine lv_iload_n hx hb dX6_isBrought_103 rfl (lv_at hl 6 rfl) ?_
            refine va_iald hx hb hK hP 9 0 rfl rfl (tr_in h_p0 (by decide) (by decide)) dX6_isBrought_104 ?_
            refine lv_topi (fun v_75895 v_75895_e => ?_)
            refine lv_iload hx hb dX6_isBrought_105 (lv_at hl 2 rfl) ?_
            refine lv_ishr hx hb dX6_isBrought_107 ?_
            refine lv_topi (fun v_75896 v_75896_e => ?_)
            refine lv_iconst (v := 1) hx hb dX6_isBrought_108 (by decide) ?_
            refine lv_iand hx hb dX6_isBrought_109 ?_
            refine lv_topi (fun v_75897 v_75897_e => ?_)
            refine lv_if_eq (tgt := 127) hx hb dX6_isBrought_110 (by decide) (fun c_75898 => ?_) (fun c_75898 => ?_)
            · skip
              have h_75899 : 0 ≤ (v_75897 : Int32).toInt ∧ (v_75897 : Int32).toInt ≤ 0 := by rw [c_75898]; exact ⟨by decide, by decide⟩
              obtain ⟨v_75900, v_75900_e⟩ : ∃ y : Int32, y = x_75868 + Int32.ofInt 1 := ⟨_, rfl⟩
              have h_v_75900 : 1 ≤ (v_75900 : Int32).toInt ∧ (v_75900 : Int32).toInt ≤ 3 := by rw [v_75900_e]; exact tr_add h_75874 (⟨by decide, by decide⟩ : 1 ≤ (Int32.ofInt 1 : Int32).toInt ∧ (Int32.ofInt 1 : Int32).toInt ≤ 1) (by decide) (by decide) (by decide) (by decide)
              have q_v_75900 : v_75900.toInt = x_75868.toInt + 1 := by rw [v_75900_e]; exact tr_addE h_75874 (⟨by decide, by decide⟩ : 1 ≤ (Int32.ofInt 1 : Int32).toInt ∧ (Int32.ofInt 1 : Int32).toInt ≤ 1) (by decide) (by decide)
              refine lv_iinc (v := v_75900) (lv' := [(6, .int v_75900), (8, .int 0), (7, .int r_75885), (5, .int x_75869), (4, .int x_75870), (0, .ref sv), (1, .int p0), (2, .int p1), (3, .ref vs)]) hx hb dX6_isBrought_127 hl (k := 2) rfl v_75900_e.symm (by decide) rfl (fun ls hl => ?_)
              refine lv_goto (tgt := 9) hx hb dX6_isBrought_130 (by decide) ?_
              exact ih_75871 v_75900 x_75869 x_75870 ls (tr_w h_v_75900 (by decide) (by decide)) (tr_w h_x_75869 (by decide) (by decide)) (tr_w h_x_75870 (by decide) (by decide)) (by (first | (clear h_p0 h_n_nodes hw_75886 h_75890 h_v_75891 c_75892_i h_75893 h_75899; omega) | omega)) (lv_sub hl [0, 3, 4, 5, 6, 7, 8] rfl)
            · skip
              refine lv_iload hx hb dX6_isBrought_113 (lv_at hl 4 rfl) ?_
              refine lv_iload hx hb dX6_isBrought_115 (lv_at hl 0 rfl) ?_
              refine lv_ior hx hb dX6_isBrought_117 ?_
              refine lv_topi (fun v_75901 v_75901_e => ?_)
              have h_v_75901 : 0 ≤ (v_75901 : Int32).toInt ∧ (v_75901 : Int32).toInt ≤ 1 := by rw [v_75901_e]; exact tr_or01 (tr_w h_x_75870 (by decide) (by decide)) (⟨by decide, by decide⟩ : 0 ≤ (0 : Int32).toInt ∧ (0 : Int32).toInt ≤ 1)
              refine lv_istore (lv' := [(4, .int v_75901), (8, .int 0), (7, .int r_75885), (6, .int x_75868), (5, .int x_75869), (0, .ref sv), (1, .int p0), (2, .int p1), (3, .ref vs)]) hx hb dX6_isBrought_118 hl (by decide) rfl (fun ls hl => ?_)
              refine lv_iload hx hb dX6_isBrought_120 (lv_at hl 4 rfl) ?_
              refine lv_iload hx hb dX6_isBrought_122 (lv_at hl 1 rfl) ?_
              refine lv_iand hx hb dX6_isBrought_124 ?_
              refine lv_topi (fun v_75902 v_75902_e => ?_)
              have h_v_75902 : 0 ≤ (v_75902 : Int32).toInt ∧ (v_75902 : Int32).toInt ≤ 1 := by rw [v_75902_e]; exact tr_and01 (tr_w h_x_75869 (by decide) (by decide)) (⟨by decide, by decide⟩ : 0 ≤ (0 : Int32).toInt ∧ (0 : Int32).toInt ≤ 1)
              refine lv_istore (lv' := [(5, .int v_75902), (4, .int v_75901), (8, .int 0), (7, .int r_75885), (6, .int x_75868), (0, .ref sv), (1, .int p0), (2, .int p1), (3, .ref vs)]) hx hb dX6_isBrought_125 hl (by decide) rfl (fun ls hl => ?_)
              obtain ⟨v_75903, v_75903_e⟩ : ∃ y : Int32, y = x_75868 + Int32.ofInt 1 := ⟨_, rfl⟩
              have h_v_75903 : 1 ≤ (v_75903 : Int32).toInt ∧ (v_75903 : Int32).toInt ≤ 3 := by rw [v_75903_e]; exact tr_add h_75874 (⟨by decide, by decide⟩ : 1 ≤ (Int32.ofInt 1 : Int32).toInt ∧ (Int32.ofInt 1 : Int32).toInt ≤ 1) (by decide) (by decide) (by decide) (by decide)
              have q_v_75903 : v_75903.toInt = x_75868.toInt + 1 := by rw [v_75903_e]; exact tr_addE h_75874 (⟨by decide, by decide⟩ : 1 ≤ (Int32.ofInt 1 : Int32).toInt ∧ (Int32.ofInt 1 : Int32).toInt ≤ 1) (by decide) (by decide)
              refine lv_iinc (v := v_75903) (lv' := [(6, .int v_75903), (5, .int v_75902), (4, .int v_75901), (8, .int 0), (7, .int r_75885), (0, .ref sv), (1, .int p0), (2, .int p1), (3, .ref vs)]) hx hb dX6_isBrought_127 hl (k := 4) rfl v_75903_e.symm (by decide) rfl (fun ls hl => ?_)
              refine lv_goto (tgt := 9) hx hb dX6_isBrought_130 (by decide) ?_
              exact ih_75871 v_75903 v_75902 v_75901 ls (tr_w h_v_75903 (by decide) (by decide)) (tr_w h_v_75902 (by decide) (by decide)) (tr_w h_v_75901 (by decide) (by decide)) (by (first | (clear h_p0 h_n_nodes h_x_75869 h_x_75870 hw_75886 h_75890 h_v_75891 c_75892_i h_75893; omega) | omega)) (lv_sub hl [0, 1, 2, 5, 6, 7, 8] rfl)
          · skip
            have c_75892_i : (v_75891 : Int32).toInt = (3 : Int32).toInt := congrArg Int32.toInt c_75892
            have h_75894 : 3 ≤ (v_75891 : Int32).toInt ∧ (v_75891 : Int32).toInt ≤ 3 := nr_eq_l h_v_75891 (⟨by decide, by decide⟩ : 3 ≤ (3 : Int32).toInt ∧ (3 : Int32).toInt ≤ 3) c_75892_i (by decide) (by decide)
            refine lv_iload hx hb dX6_isBrought_64 (lv_at hl 4 rfl) ?_
            refine lv_iload hx hb dX6_isBrought_66 (lv_at hl 0 rfl) ?_
            refine lv_if_ne (tgt := 88) hx hb dX6_isBrought_68 (by decide) (fun h9 => (h9 (by decide)).elim) (fun _ => ?_)
            refine lv_aload_n hx hb dX6_isBrought_71 rfl (lv_at hl 8 rfl) ?_
            refine va_get (D := D) (ci := 10) (v := .ref vs_part) (C := RX10) (T := TX10) (N := 2) hx hb hts inlX10 hown hK hP 7 rfl rfl 0 (by decide) (hts (Cond.fieldLink RX6 71 "ChanceRings$Values" "part" "[J") qw_533) (fun _ h9 => h9) rfl dX6_isBrought_72 ?_
            refine lv_iload hx hb dX6_isBrought_75 (lv_at hl 1 rfl) ?_
            refine va_lald hx hb hK hP 8 1 rfl rfl (tr_in hw_75886 (by decide) (by decide)) dX6_isBrought_77 ?_
            refine lv_topl (fun w_75904 _ => ?_)
            refine lv_aload_n hx hb dX6_isBrought_78 rfl (lv_at hl 8 rfl) ?_
            refine va_get (D := D) (ci := 10) (v := .ref vs_part) (C := RX10) (T := TX10) (N := 2) hx hb hts inlX10 hown hK hP 7 rfl rfl 0 (by decide) (hts (Cond.fieldLink RX6 71 "ChanceRings$Values" "part" "[J") qw_533) (fun _ h9 => h9) rfl dX6_isBrought_79 ?_
            refine lv_iload_n hx hb dX6_isBrought_82 rfl (lv_at hl 6 rfl) ?_
            refine va_lald hx hb hK hP 8 1 rfl rfl (tr_in h_p0 (by decide) (by decide)) dX6_isBrought_83 ?_
            refine lv_topl (fun w_75905 _ => ?_)
            refine W.lcmp hx hb dX6_isBrought_84 ?_
            refine lv_topi (fun v_75906 v_75906_e => ?_)
            have h_v_75906 : (-1) ≤ (v_75906 : Int32).toInt ∧ (v_75906 : Int32).toInt ≤ 1 := by rw [v_75906_e]; exact tr_cmp _ _
            refine lv_if_eq (tgt := 92) hx hb dX6_isBrought_85 (by decide) (fun c_75907 => ?_) (fun c_75907 => ?_)
            · skip
              have c_75907_i : (v_75906 : Int32).toInt = (0 : Int32).toInt := congrArg Int32.toInt c_75907
              have h_75908 : 0 ≤ (v_75906 : Int32).toInt ∧ (v_75906 : Int32).toInt ≤ 0 := nr_eq_l h_v_75906 (⟨by decide, by decide⟩ : 0 ≤ (0 : Int32).toInt ∧ (0 : Int32).toInt ≤ 0) c_75907_i (by decide) (by decide)
              refine lv_iconst (v := 0) hx hb dX6_isBrought_92 (by decide) ?_
              refine lv_ior hx hb dX6_isBrought_93 ?_
              refine lv_topi (fun v_75909 v_75909_e => ?_)
              have h_v_75909 : 0 ≤ (v_75909 : Int32).toInt ∧ (v_75909 : Int32).toInt ≤ 1 := by rw [v_75909_e]; exact tr_or01 (tr_w h_x_75870 (by decide) (by decide)) (⟨by decide, by decide⟩ : 0 ≤ (0 : Int32).toInt ∧ (0 : Int32).toInt ≤ 1)
              refine lv_istore (lv' := [(4, .int v_75909), (8, .int 0), (7, .int r_75885), (6, .int x_75868), (5, .int x_75869), (0, .ref sv), (1, .int p0), (2, .int p1), (3, .ref vs)]) hx hb dX6_isBrought_94 hl (by decide) rfl (fun ls hl => ?_)
              refine lv_goto (tgt := 127) hx hb dX6_isBrought_96 (by decide) ?_
              obtain ⟨v_75910, v_75910_e⟩ : ∃ y : Int32, y = x_75868 + Int32.ofInt 1 := ⟨_, rfl⟩
              have h_v_75910 : 1 ≤ (v_75910 : Int32).toInt ∧ (v_75910 : Int32).toInt ≤ 3 := by rw [v_75910_e]; exact tr_add h_75874 (⟨by decide, by decide⟩ : 1 ≤ (Int32.ofInt 1 : Int32).toInt ∧ (Int32.ofInt 1 : Int32).toInt ≤ 1) (by decide) (by decide) (by decide) (by decide)
              have q_v_75910 : v_75910.toInt = x_75868.toInt + 1 := by rw [v_75910_e]; exact tr_addE h_75874 (⟨by decide, by decide⟩ : 1 ≤ (Int32.ofInt 1 : Int32).toInt ∧ (Int32.ofInt 1 : Int32).toInt ≤ 1) (by decide) (by decide)
              refine lv_iinc (v := v_75910) (lv' := [(6, .int v_75910), (4, .int v_75909), (8, .int 0), (7, .int r_75885), (5, .int x_75869), (0, .ref sv), (1, .int p0), (2, .int p1), (3, .ref vs)]) hx hb dX6_isBrought_127 hl (k := 3) rfl v_75910_e.symm (by decide) rfl (fun ls hl => ?_)
              refine lv_goto (tgt := 9) hx hb dX6_isBrought_130 (by decide) ?_
              exact ih_75871 v_75910 x_75869 v_75909 ls (tr_w h_v_75910 (by decide) (by decide)) (tr_w h_x_75869 (by decide) (by decide)) (tr_w h_v_75909 (by decide) (by decide)) (by (first | (clear h_p0 h_n_nodes h_x_75870 hw_75886 h_75890 h_v_75891 c_75892_i h_75894 h_v_75906 c_75907_i h_75908; omega) | omega)) (lv_sub hl [0, 4, 1, 5, 6, 7, 8] rfl)
            · skip
              refine lv_iconst (v := 1) hx hb dX6_isBrought_88 (by decide) ?_
              refine lv_goto (tgt := 93) hx hb dX6_isBrought_89 (by decide) ?_
              refine lv_ior hx hb dX6_isBrought_93 ?_
              refine lv_topi (fun v_75911 v_75911_e => ?_)
              have h_v_75911 : 0 ≤ (v_75911 : Int32).toInt ∧ (v_75911 : Int32).toInt ≤ 1 := by rw [v_75911_e]; exact tr_or01 (tr_w h_x_75870 (by decide) (by decide)) (⟨by decide, by decide⟩ : 0 ≤ (1 : Int32).toInt ∧ (1 : Int32).toInt ≤ 1)
              refine lv_istore (lv' := [(4, .int v_75911), (8, .int 0), (7, .int r_75885), (6, .int x_75868), (5, .int x_75869), (0, .ref sv), (1, .int p0), (2, .int p1), (3, .ref vs)]) hx hb dX6_isBrought_94 hl (by decide) rfl (fun ls hl => ?_)
              refine lv_goto (tgt := 127) hx hb dX6_isBrought_96 (by decide) ?_
              obtain ⟨v_75912, v_75912_e⟩ : ∃ y : Int32, y = x_75868 + Int32.ofInt 1 := ⟨_, rfl⟩
              have h_v_75912 : 1 ≤ (v_75912 : Int32).toInt ∧ (v_75912 : Int32).toInt ≤ 3 := by rw [v_75912_e]; exact tr_add h_75874 (⟨by decide, by decide⟩ : 1 ≤ (Int32.ofInt 1 : Int32).toInt ∧ (Int32.ofInt 1 : Int32).toInt ≤ 1) (by decide) (by decide) (by decide) (by decide)
              have q_v_75912 : v_75912.toInt = x_75868.toInt + 1 := by rw [v_75912_e]; exact tr_addE h_75874 (⟨by decide, by decide⟩ : 1 ≤ (Int32.ofInt 1 : Int32).toInt ∧ (Int32.ofInt 1 : Int32).toInt ≤ 1) (by decide) (by decide)
              refine lv_iinc (v := v_75912) (lv' := [(6, .int v_75912), (4, .int v_75911), (8, .int 0), (7, .int r_75885), (5, .int x_75869), (0, .ref sv), (1, .int p0), (2, .int p1), (3, .ref vs)]) hx hb dX6_isBrought_127 hl (k := 3) rfl v_75912_e.symm (by decide) rfl (fun ls hl => ?_)
              refine lv_goto (tgt := 9) hx hb dX6_isBrought_130 (by decide) ?_
              exact ih_75871 v_75912 x_75869 v_75911 ls (tr_w h_v_75912 (by decide) (by decide)) (tr_w h_x_75869 (by decide) (by decide)) (tr_w h_v_75911 (by decide) (by decide)) (by (first | (clear h_p0 h_n_nodes h_x_75870 hw_75886 h_75890 h_v_75891 c_75892_i h_75894 h_v_75906; omega) | omega)) (lv_sub hl [0, 4, 1, 5, 6, 7, 8] rfl)
        · skip
          refine lv_iconst (v := 1) hx hb dX6_isBrought_44 (by decide) ?_
          refine lv_goto (tgt := 49) hx hb dX6_isBrought_45 (by decide) ?_
          refine lv_istore (lv' := [(8, .int 1), (7, .int r_75885), (6, .int x_75868), (5, .int x_75869), (4, .int x_75870), (0, .ref sv), (1, .int p0), (2, .int p1), (3, .ref vs)]) hx hb dX6_isBrought_49 hl (by decide) rfl (fun ls hl => ?_)
          refine lv_aload_n hx hb dX6_isBrought_51 rfl (lv_at hl 5 rfl) ?_
          refine va_get (D := D) (ci := 6) (v := .ref n) (C := RX6) (T := TX6) (N := 4) hx hb hts inlX6 hown hK hP 0 rfl rfl 0 (by decide) (hts (Cond.fieldLink RX6 19 "ChanceRings$Solver" "net" "LChanceRings$Net;") qw_528) (fun _ h9 => h9) rfl dX6_isBrought_52 ?_
          refine va_get (D := D) (ci := 2) (v := .ref n_kind) (C := RX2) (T := TX2) (N := 8) hx hb hts inlX2 hown hK hP 1 rfl rfl 1 (by decide) (hts (Cond.fieldLink RX6 61 "ChanceRings$Net" "kind" "[I") qw_531) (fun _ h9 => h9) rfl dX6_isBrought_55 ?_
          refine lv_iload_n hx hb dX6_isBrought_58 rfl (lv_at hl 6 rfl) ?_
          refine va_iald hx hb hK hP 2 0 rfl rfl (tr_in h_p0 (by decide) (by decide)) dX6_isBrought_59 ?_
          refine lv_topi (fun v_75913 v_75913_e => ?_)
          have h_v_75913 : 0 ≤ (v_75913 : Int32).toInt ∧ (v_75913 : Int32).toInt ≤ 3 := by rw [v_75913_e]; exact h_n_fkind _
          refine lv_iconst (v := 3) hx hb dX6_isBrought_60 (by decide) ?_
          refine lv_icmp_ne (tgt := 99) hx hb dX6_isBrought_61 (by decide) (fun c_75914 => ?_) (fun c_75914 => ?_)
          · skip
            have c_75914_i : ¬ (v_75913 : Int32).toInt = (3 : Int32).toInt := (fun q => c_75914 (Int32.toInt_inj.mp q))
            have h_75915 : 0 ≤ (v_75913 : Int32).toInt ∧ (v_75913 : Int32).toInt ≤ 2 := nr_ne_l h_v_75913 (⟨by decide, by decide⟩ : 3 ≤ (3 : Int32).toInt ∧ (3 : Int32).toInt ≤ 3) c_75914_i (by decide) (by decide)
            refine lv_aload_n hx hb dX6_isBrought_99 rfl (lv_at hl 5 rfl) ?_
            refine va_get (D := D) (ci := 6) (v := .ref sv_keep) (C := RX6) (T := TX6) (N := 4) hx hb hts inlX6 hown hK hP 0 rfl rfl 2 (by decide) (hts (Cond.fieldLink RX6 9 "ChanceRings$Solver" "keep" "[I") qw_567) (fun _ h9 => h9) rfl dX6_isBrought_100 ?_
            refine lv_iload_n hx hb dX6_isBrought_103 rfl (lv_at hl 6 rfl) ?_
            refine va_iald hx hb hK hP 9 0 rfl rfl (tr_in h_p0 (by decide) (by decide)) dX6_isBrought_104 ?_
            refine lv_topi (fun v_75917 v_75917_e => ?_)
            refine lv_iload hx hb dX6_isBrought_105 (lv_at hl 2 rfl) ?_
            refine lv_ishr hx hb dX6_isBrought_107 ?_
            refine lv_topi (fun v_75918 v_75918_e => ?_)
            refine lv_iconst (v := 1) hx hb dX6_isBrought_108 (by decide) ?_
            refine lv_iand hx hb dX6_isBrought_109 ?_
            refine lv_topi (fun v_75919 v_75919_e => ?_)
            refine lv_if_eq (tgt := 127) hx hb dX6_isBrought_110 (by decide) (fun c_75920 => ?_) (fun c_75920 => ?_)
            · skip
              have h_75921 : 0 ≤ (v_75919 : Int32).toInt ∧ (v_75919 : Int32).toInt ≤ 0 := by rw [c_75920]; exact ⟨by decide, by decide⟩
              obtain ⟨v_75922, v_75922_e⟩ : ∃ y : Int32, y = x_75868 + Int32.ofInt 1 := ⟨_, rfl⟩
              have h_v_75922 : 1 ≤ (v_75922 : Int32).toInt ∧ (v_75922 : Int32).toInt ≤ 3 := by rw [v_75922_e]; exact tr_add h_75874 (⟨by decide, by decide⟩ : 1 ≤ (Int32.ofInt 1 : Int32).toInt ∧ (Int32.ofInt 1 : Int32).toInt ≤ 1) (by decide) (by decide) (by decide) (by decide)
              have q_v_75922 : v_75922.toInt = x_75868.toInt + 1 := by rw [v_75922_e]; exact tr_addE h_75874 (⟨by decide, by decide⟩ : 1 ≤ (Int32.ofInt 1 : Int32).toInt ∧ (Int32.ofInt 1 : Int32).toInt ≤ 1) (by decide) (by decide)
              refine lv_iinc (v := v_75922) (lv' := [(6, .int v_75922), (8, .int 1), (7, .int r_75885), (5, .int x_75869), (4, .int x_75870), (0, .ref sv), (1, .int p0), (2, .int p1), (3, .ref vs)]) hx hb dX6_isBrought_127 hl (k := 2) rfl v_75922_e.symm (by decide) rfl (fun ls hl => ?_)
              refine lv_goto (tgt := 9) hx hb dX6_isBrought_130 (by decide) ?_
              exact ih_75871 v_75922 x_75869 x_75870 ls (tr_w h_v_75922 (by decide) (by decide)) (tr_w h_x_75869 (by decide) (by decide)) (tr_w h_x_75870 (by decide) (by decide)) (by (first | (clear h_p0 h_n_nodes hw_75886 h_v_75913 c_75914_i h_75915 h_75921; omega) | omega)) (lv_sub hl [0, 3, 4, 5, 6, 7, 8] rfl)
            · skip
              refine lv_iload hx hb dX6_isBrought_113 (lv_at hl 4 rfl) ?_
              refine lv_iload hx hb dX6_isBrought_115 (lv_at hl 0 rfl) ?_
              refine lv_ior hx hb dX6_isBrought_117 ?_
              refine lv_topi (fun v_75923 v_75923_e => ?_)
              have h_v_75923 : 0 ≤ (v_75923 : Int32).toInt ∧ (v_75923 : Int32).toInt ≤ 1 := by rw [v_75923_e]; exact tr_or01 (tr_w h_x_75870 (by decide) (by decide)) (⟨by decide, by decide⟩ : 0 ≤ (1 : Int32).toInt ∧ (1 : Int32).toInt ≤ 1)
              refine lv_istore (lv' := [(4, .int v_75923), (8, .int 1), (7, .int r_75885), (6, .int x_75868), (5, .int x_75869), (0, .ref sv), (1, .int p0), (2, .int p1), (3, .ref vs)]) hx hb dX6_isBrought_118 hl (by decide) rfl (fun ls hl => ?_)
              refine lv_iload hx hb dX6_isBrought_120 (lv_at hl 4 rfl) ?_
              refine lv_iload hx hb dX6_isBrought_122 (lv_at hl 1 rfl) ?_
              refine lv_iand hx hb dX6_isBrought_124 ?_
              refine lv_topi (fun v_75924 v_75924_e => ?_)
              have h_v_75924 : 0 ≤ (v_75924 : Int32).toInt ∧ (v_75924 : Int32).toInt ≤ 1 := by rw [v_75924_e]; exact tr_and01 (tr_w h_x_75869 (by decide) (by decide)) (⟨by decide, by decide⟩ : 0 ≤ (1 : Int32).toInt ∧ (1 : Int32).toInt ≤ 1)
              refine lv_istore (lv' := [(5, .int v_75924), (4, .int v_75923), (8, .int 1), (7, .int r_75885), (6, .int x_75868), (0, .ref sv), (1, .int p0), (2, .int p1), (3, .ref vs)]) hx hb dX6_isBrought_125 hl (by decide) rfl (fun ls hl => ?_)
              obtain ⟨v_75925, v_75925_e⟩ : ∃ y : Int32, y = x_75868 + Int32.ofInt 1 := ⟨_, rfl⟩
              have h_v_75925 : 1 ≤ (v_75925 : Int32).toInt ∧ (v_75925 : Int32).toInt ≤ 3 := by rw [v_75925_e]; exact tr_add h_75874 (⟨by decide, by decide⟩ : 1 ≤ (Int32.ofInt 1 : Int32).toInt ∧ (Int32.ofInt 1 : Int32).toInt ≤ 1) (by decide) (by decide) (by decide) (by decide)
              have q_v_75925 : v_75925.toInt = x_75868.toInt + 1 := by rw [v_75925_e]; exact tr_addE h_75874 (⟨by decide, by decide⟩ : 1 ≤ (Int32.ofInt 1 : Int32).toInt ∧ (Int32.ofInt 1 : Int32).toInt ≤ 1) (by decide) (by decide)
              refine lv_iinc (v := v_75925) (lv' := [(6, .int v_75925), (5, .int v_75924), (4, .int v_75923), (8, .int 1), (7, .int r_75885), (0, .ref sv), (1, .int p0), (2, .int p1), (3, .ref vs)]) hx hb dX6_isBrought_127 hl (k := 4) rfl v_75925_e.symm (by decide) rfl (fun ls hl => ?_)
              refine lv_goto (tgt := 9) hx hb dX6_isBrought_130 (by decide) ?_
              exact ih_75871 v_75925 v_75924 v_75923 ls (tr_w h_v_75925 (by decide) (by decide)) (tr_w h_v_75924 (by decide) (by decide)) (tr_w h_v_75923 (by decide) (by decide)) (by (first | (clear h_p0 h_n_nodes h_x_75869 h_x_75870 hw_75886 h_v_75913 c_75914_i h_75915; omega) | omega)) (lv_sub hl [0, 1, 2, 5, 6, 7, 8] rfl)
          · skip
            have c_75914_i : (v_75913 : Int32).toInt = (3 : Int32).toInt := congrArg Int32.toInt c_75914
            have h_75916 : 3 ≤ (v_75913 : Int32).toInt ∧ (v_75913 : Int32).toInt ≤ 3 := nr_eq_l h_v_75913 (⟨by decide, by decide⟩ : 3 ≤ (3 : Int32).toInt ∧ (3 : Int32).toInt ≤ 3) c_75914_i (by decide) (by decide)
            refine lv_iload hx hb dX6_isBrought_64 (lv_at hl 4 rfl) ?_
            refine lv_iload hx hb dX6_isBrought_66 (lv_at hl 0 rfl) ?_
            refine lv_if_ne (tgt := 88) hx hb dX6_isBrought_68 (by decide) (fun _ => ?_) (fun h9 => absurd h9 (by decide))
            refine lv_iconst (v := 1) hx hb dX6_isBrought_88 (by decide) ?_
            refine lv_goto (tgt := 93) hx hb dX6_isBrought_89 (by decide) ?_
            refine lv_ior hx hb dX6_isBrought_93 ?_
            refine lv_topi (fun v_75926 v_75926_e => ?_)
            have h_v_75926 : 0 ≤ (v_75926 : Int32).toInt ∧ (v_75926 : Int32).toInt ≤ 1 := by rw [v_75926_e]; exact tr_or01 (tr_w h_x_75870 (by decide) (by decide)) (⟨by decide, by decide⟩ : 0 ≤ (1 : Int32).toInt ∧ (1 : Int32).toInt ≤ 1)
            refine lv_istore (lv' := [(4, .int v_75926), (8, .int 1), (7, .int r_75885), (6, .int x_75868), (5, .int x_75869), (0, .ref sv), (1, .int p0), (2, .int p1), (3, .ref vs)]) hx hb dX6_isBrought_94 hl (by decide) rfl (fun ls hl => ?_)
            refine lv_goto (tgt := 127) hx hb dX6_isBrought_96 (by decide) ?_
            obtain ⟨v_75927, v_75927_e⟩ : ∃ y : Int32, y = x_75868 + Int32.ofInt 1 := ⟨_, rfl⟩
            have h_v_75927 : 1 ≤ (v_75927 : Int32).toInt ∧ (v_75927 : Int32).toInt ≤ 3 := by rw [v_75927_e]; exact tr_add h_75874 (⟨by decide, by decide⟩ : 1 ≤ (Int32.ofInt 1 : Int32).toInt ∧ (Int32.ofInt 1 : Int32).toInt ≤ 1) (by decide) (by decide) (by decide) (by decide)
            have q_v_75927 : v_75927.toInt = x_75868.toInt + 1 := by rw [v_75927_e]; exact tr_addE h_75874 (⟨by decide, by decide⟩ : 1 ≤ (Int32.ofInt 1 : Int32).toInt ∧ (Int32.ofInt 1 : Int32).toInt ≤ 1) (by decide) (by decide)
            refine lv_iinc (v := v_75927) (lv' := [(6, .int v_75927), (4, .int v_75926), (8, .int 1), (7, .int r_75885), (5, .int x_75869), (0, .ref sv), (1, .int p0), (2, .int p1), (3, .ref vs)]) hx hb dX6_isBrought_127 hl (k := 3) rfl v_75927_e.symm (by decide) rfl (fun ls hl => ?_)
            refine lv_goto (tgt := 9) hx hb dX6_isBrought_130 (by decide) ?_
            exact ih_75871 v_75927 x_75869 v_75926 ls (tr_w h_v_75927 (by decide) (by decide)) (tr_w h_x_75869 (by decide) (by decide)) (tr_w h_v_75926 (by decide) (by decide)) (by (first | (clear h_p0 h_n_nodes h_x_75870 hw_75886 h_v_75913 c_75914_i h_75916; omega) | omega)) (lv_sub hl [0, 4, 1, 5, 6, 7, 8] rfl)
  exact lp_75871 4 0 1 0 ls (⟨by decide, by decide⟩ : 0 ≤ (0 : Int32).toInt ∧ (0 : Int32).toInt ≤ 3) (⟨by decide, by decide⟩ : 0 ≤ (1 : Int32).toInt ∧ (1 : Int32).toInt ≤ 1) (⟨by decide, by decide⟩ : 0 ≤ (0 : Int32).toInt ∧ (0 : Int32).toInt ≤ 1) (by decide) (lv_sub hl [0, 1, 2, 3, 4, 5, 6] rfl)
set_option maxHeartbeats 4000000 in
set_option maxRecDepth 100000 in
theorem c_X6_bringsAll (l : Launch) (D : va_G) (g : Nat → ClassId) (sv : Nat) (vs : Nat) (n : Nat) (co : Nat) (sv_keep : Nat) (sv_scaled : Nat) (n_nodes : Int32) (n_kind : Nat) (n_pay : Nat) (n_name : Nat) (n_ways : Nat) (n_held : Nat) (n_targets : Nat) (n_weights : Nat) (n_fkind : Nat → Int32) (n_fpay : Nat → Int32) (n_fways : Nat → Int32) (n_fheld : Nat → Int32) (n_ftargets : Nat → Int32) (vs_part : Nat) (vsw : Int64) (vsp : Nat → Int64) (kpf : Nat → Int32) (h_n_nodes : 0 ≤ (n_nodes : Int32).toInt ∧ (n_nodes : Int32).toInt ≤ 12) (h_n_fkind : ∀ j : Nat, 0 ≤ (n_fkind j).toInt ∧ (n_fkind j).toInt ≤ 3) (h_n_fways : ∀ j : Nat, 0 ≤ (n_fways j).toInt ∧ (n_fways j).toInt ≤ 3) (h_n_fheld : ∀ j : Nat, (-1) ≤ (n_fheld j).toInt ∧ (n_fheld j).toInt ≤ 2) (h_n_ftargets : ∀ j : Nat, 0 ≤ (n_ftargets j).toInt ∧ (n_ftargets j).toInt ≤ 11) : Met l yX6_bringsAll (.code yX6_bringsAll cX6_bringsAll 6 (some .boolean) :: wsL_law) ({ frames := 2, cells := 0, slots := 0, locals := 50 }) (va_Pc [.ref sv, .ref vs] (fun U => va_P D vwCl [(wO6 sv n co sv_keep sv_scaled), (wO2 n n_nodes n_kind n_pay n_name n_ways n_held n_targets n_weights), (wI g n_kind 0 12 n_fkind), (wI g n_pay 0 12 n_fpay), (wI g n_ways 0 12 n_fways), (wI g n_held 0 12 n_fheld), (wI g n_targets 0 36 n_ftargets), (wO10 vs vs_part vsw), (wJ g vs_part 1 12 vsp), (wI g sv_keep 0 12 kpf)] U.heap ∧ va_K D vwCl (TY g) U)) (vp_Si (fun r => 0 ≤ (r : Int32).toInt ∧ (r : Int32).toInt ≤ 1)) 0 0 (fun _ => False) := by
  refine Met.ofW (cc := cX6_bringsAll) (maxL := 6) (ret := (some .boolean)) (by decide) rfl ?_
  intro p e s m args below meth c s₁ B hml hv
  obtain ⟨ha, hP, hK⟩ := hv
  have hx := B.exec
  have hb := B.bytes
  have hr := B.returns
  have hts0 := atoms_spec (ws := (.code yX6_bringsAll cX6_bringsAll 6 (some .boolean) :: wsL_law)) B.pre
  have hts : ∀ w ∈ wsL_law, w.before args s = true := fun w h => hts0 w (List.mem_cons_of_mem _ h)
  have hown : s.vm.findClass RX6 = some m.cls := findClass_of_methodNamed B.named
  have hlocks := B.notSynchronized
  have hP : va_P D vwCl [(wO6 sv n co sv_keep sv_scaled), (wO2 n n_nodes n_kind n_pay n_name n_ways n_held n_targets n_weights), (wI g n_kind 0 12 n_fkind), (wI g n_pay 0 12 n_fpay), (wI g n_ways 0 12 n_fways), (wI g n_held 0 12 n_fheld), (wI g n_targets 0 36 n_ftargets), (wO10 vs vs_part vsw), (wJ g vs_part 1 12 vsp), (wI g sv_keep 0 12 kpf)] s.heap := hP
  refine W.eq (g2 := entryFrame m ([.ref sv, .ref vs] : List Value).toArray 6) (by rw [ha]) ?_
  have hl := lv_entry ([.ref sv, .ref vs]) (n := 6) (Nat.le_of_ble_eq_true rfl)
  rw [lg_entry_eq]
  generalize (lg_sl ([.ref sv, .ref vs]) ++ List.replicate (6 - (lg_sl ([.ref sv, .ref vs])).length) Slot.unset).toArray = ls at hl ⊢
  have hl : lv_has ls 6 [(0, .ref sv), (1, .ref vs)] := hl
  refine lv_aload_n hx hb dX6_bringsAll_0 rfl (lv_at hl 0 rfl) ?_
  refine va_get (D := D) (ci := 6) (v := .ref n) (C := RX6) (T := TX6) (N := 4) hx hb hts inlX6 hown hK hP 0 rfl rfl 0 (by decide) (hts (Cond.fieldLink RX6 19 "ChanceRings$Solver" "net" "LChanceRings$Net;") qw_528) (fun _ h9 => h9) rfl dX6_bringsAll_1 ?_
  have hPc := hP.sub (ws' := [(wO2 n n_nodes n_kind n_pay n_name n_ways n_held n_targets n_weights), (wI g n_kind 0 12 n_fkind), (wI g n_pay 0 12 n_fpay)]) [1, 2, 3] rfl
  refine vp_callSi (va_Run.run (va_runV (As := []) (rest := []) ⟨hx, hb, hml, hown, hts⟩ (c_X2_payingEnds l D g n n_nodes n_kind n_pay n_name n_ways n_held n_targets n_weights n_fkind n_fpay (tr_w h_n_nodes (by decide) (by decide)) (tr_wa h_n_fkind (by decide) (by decide))) (cwV 0 hts (tz_gV qw_544 qw_485 qw_486 qw_322 qw_487) rfl rfl rfl (by decide +kernel) ⟨Nat.le_of_ble_eq_true rfl, Nat.le_of_ble_eq_true rfl⟩) ⟨tz_blS, va_recv hK hPc (ci := 2) (q0 := 0) rfl rfl, tz_preS hPc hK⟩ rfl rfl hl.1 rfl (lv_room (Nat.le_of_ble_eq_true rfl)) dX6_bringsAll_4 ⟨Nat.le_of_ble_eq_true rfl, Nat.le_of_ble_eq_true rfl⟩)) (fun r_75928 hw => ?_)
  refine lv_istore_n (lv' := [(2, .int r_75928), (0, .ref sv), (1, .ref vs)]) hx hb dX6_bringsAll_7 rfl hl (by decide) rfl (fun ls hl => ?_)
  refine lv_iconst (v := (-1)) hx hb dX6_bringsAll_8 (by decide) ?_
  refine lv_istore_n (lv' := [(3, .int (-1)), (2, .int r_75928), (0, .ref sv), (1, .ref vs)]) hx hb dX6_bringsAll_9 rfl hl (by decide) rfl (fun ls hl => ?_)
  refine lv_iconst (v := 0) hx hb dX6_bringsAll_10 (by decide) ?_
  refine lv_istore (lv' := [(4, .int 0), (3, .int (-1)), (2, .int r_75928), (0, .ref sv), (1, .ref vs)]) hx hb dX6_bringsAll_11 hl (by decide) rfl (fun ls hl => ?_)
  have lp_78614 : ∀ (n_78614 : Nat) (x_78611 : Int32) (x_78612 : Int32) (x_78613 : Int32) (ls : Array Slot), (0 ≤ (x_78611 : Int32).toInt ∧ (x_78611 : Int32).toInt ≤ 12) → (12 - x_78611.toInt < (n_78614 : Int)) → lv_has ls 6 [(4, .int x_78611), (3, .int x_78612), (2, .int x_78613), (0, .ref sv), (1, .ref vs)] → W p l e (headSpec (.code yX6_bringsAll cX6_bringsAll 6 (some .boolean) :: wsL_law) ({ frames := 2, cells := 0, slots := 0, locals := 50 })).room s m args below meth c s.heap [] 0 0 (MQ below (vp_Si (fun r => 0 ≤ (r : Int32).toInt ∧ (r : Int32).toInt ≤ 1)) args s 0 0 (fun _ => False)) (F0 m 13 ls []) := by
    intro n_78614
    induction n_78614 with
    | zero =>
      intro x_78611 x_78612 x_78613 ls h_x_78611 hm_78614 hl
      exfalso; omega
    | succ n_78614 ih_78614 =>
      intro x_78611 x_78612 x_78613 ls h_x_78611 hm_78614 hl
      refine lv_iload hx hb dX6_bringsAll_13 (lv_at hl 0 rfl) ?_
      refine lv_bipush (v := 12) hx hb dX6_bringsAll_15 (by decide) ?_
      refine lv_icmp_ge (tgt := 84) hx hb dX6_bringsAll_17 (by decide) (fun c_78615 => ?_) (fun c_78615 => ?_)
      · skip
        have c_78615_i := Int32.le_iff_toInt_le.mp c_78615
        have h_78616 : 12 ≤ (x_78611 : Int32).toInt ∧ (x_78611 : Int32).toInt ≤ 12 := nr_le_r (⟨by decide, by decide⟩ : 12 ≤ (12 : Int32).toInt ∧ (12 : Int32).toInt ≤ 12) h_x_78611 c_78615_i (by decide) (by decide)
        refine lv_iconst (v := 0) hx hb dX6_bringsAll_84 (by decide) ?_
        refine lv_istore (lv' := [(4, .int 0), (3, .int x_78612), (2, .int x_78613), (0, .ref sv), (1, .ref vs)]) hx hb dX6_bringsAll_85 hl (by decide) rfl (fun ls hl => ?_)
        have lp_78736 : ∀ (n_78736 : Nat) (x_78735 : Int32) (ls : Array Slot), (0 ≤ (x_78735 : Int32).toInt ∧ (x_78735 : Int32).toInt ≤ 12) → (12 - x_78735.toInt < (n_78736 : Int)) → lv_has ls 6 [(4, .int x_78735), (3, .int x_78612), (2, .int x_78613), (0, .ref sv), (1, .ref vs)] → W p l e (headSpec (.code yX6_bringsAll cX6_bringsAll 6 (some .boolean) :: wsL_law) ({ frames := 2, cells := 0, slots := 0, locals := 50 })).room s m args below meth c s.heap [] 0 0 (MQ below (vp_Si (fun r => 0 ≤ (r : Int32).toInt ∧ (r : Int32).toInt ≤ 1)) args s 0 0 (fun _ => False)) (F0 m 87 ls []) := by
          intro n_78736
          induction n_78736 with
          | zero =>
            intro x_78735 ls h_x_78735 hm_78736 hl
            exfalso; omega
          | succ n_78736 ih_78736 =>
            intro x_78735 ls h_x_78735 hm_78736 hl
            refine lv_iload hx hb dX6_bringsAll_87 (lv_at hl 0 rfl) ?_
            refine lv_aload_n hx hb dX6_bringsAll_89 rfl (lv_at hl 3 rfl) ?_
            refine va_get (D := D) (ci := 6) (v := .ref n) (C := RX6) (T := TX6) (N := 4) hx hb hts inlX6 hown hK hP 0 rfl rfl 0 (by decide) (hts (Cond.fieldLink RX6 19 "ChanceRings$Solver" "net" "LChanceRings$Net;") qw_528) (fun _ h9 => h9) rfl dX6_bringsAll_90 ?_
            refine va_get (D := D) (ci := 2) (v := .int n_nodes) (C := RX2) (T := TX2) (N := 8) hx hb hts inlX2 hown hK hP 1 rfl rfl 0 (by decide) (hts (Cond.fieldLink RX6 32 "ChanceRings$Net" "nodes" "I") qw_529) (fun _ h9 => h9) rfl dX6_bringsAll_93 ?_
            refine lv_icmp_ge (tgt := 128) hx hb dX6_bringsAll_96 (by decide) (fun c_78737 => ?_) (fun c_78737 => ?_)
            · skip
              refine lv_iconst (v := 1) hx hb dX6_bringsAll_128 (by decide) ?_
              exact W.zret (v := 1) hx hb hr (by decide) (fun t ht hW => ⟨1, rfl, (⟨by decide, by decide⟩ : 0 ≤ (1 : Int32).toInt ∧ (1 : Int32).toInt ≤ 1), ht⟩) (fun _ h => nomatch h) dX6_bringsAll_129
            · skip
              have c_78737_i := Int32.lt_iff_toInt_lt.mp (Int32.not_le.mp c_78737)
              have h_78738 : 0 ≤ (x_78735 : Int32).toInt ∧ (x_78735 : Int32).toInt ≤ 11 := nr_lt_l h_x_78735 h_n_nodes c_78737_i (by decide) (by decide)
              have h_78739 : 1 ≤ (n_nodes : Int32).toInt ∧ (n_nodes : Int32).toInt ≤ 12 := nr_lt_r h_x_78735 h_n_nodes c_78737_i (by decide) (by decide)
              refine lv_aload_n hx hb dX6_bringsAll_99 rfl (lv_at hl 4 rfl) ?_
              refine va_get (D := D) (ci := 10) (v := .ref vs_part) (C := RX10) (T := TX10) (N := 2) hx hb hts inlX10 hown hK hP 7 rfl rfl 0 (by decide) (hts (Cond.fieldLink RX6 71 "ChanceRings$Values" "part" "[J") qw_533) (fun _ h9 => h9) rfl dX6_bringsAll_100 ?_
              refine lv_iload hx hb dX6_bringsAll_103 (lv_at hl 0 rfl) ?_
              refine va_lald hx hb hK hP 8 1 rfl rfl (tr_in h_78738 (by decide) (by decide)) dX6_bringsAll_105 ?_
              refine lv_topl (fun w_78740 _ => ?_)
              refine lv_lconst (v := 0) hx hb dX6_bringsAll_106 (by decide) ?_
              refine W.lcmp hx hb dX6_bringsAll_107 ?_
              refine lv_topi (fun v_78741 v_78741_e => ?_)
              have h_v_78741 : (-1) ≤ (v_78741 : Int32).toInt ∧ (v_78741 : Int32).toInt ≤ 1 := by rw [v_78741_e]; exact tr_cmp _ _
              refine lv_if_le (tgt := 122) hx hb dX6_bringsAll_108 (by decide) (fun c_78742 => ?_) (fun c_78742 => ?_)
              · skip
                have c_78742_i := Int32.le_iff_toInt_le.mp c_78742
                have h_78743 : (-1) ≤ (v_78741 : Int32).toInt ∧ (v_78741 : Int32).toInt ≤ 0 := nr_le_l h_v_78741 (⟨by decide, by decide⟩ : 0 ≤ (0 : Int32).toInt ∧ (0 : Int32).toInt ≤ 0) c_78742_i (by decide) (by decide)
                obtain ⟨v_78745, v_78745_e⟩ : ∃ y : Int32, y = x_78735 + Int32.ofInt 1 := ⟨_, rfl⟩
                have h_v_78745 : 1 ≤ (v_78745 : Int32).toInt ∧ (v_78745 : Int32).toInt ≤ 12 := by rw [v_78745_e]; exact tr_add h_78738 (⟨by decide, by decide⟩ : 1 ≤ (Int32.ofInt 1 : Int32).toInt ∧ (Int32.ofInt 1 : Int32).toInt ≤ 1) (by decide) (by decide) (by decide) (by decide)
                have q_v_78745 : v_78745.toInt = x_78735.toInt + 1 := by rw [v_78745_e]; exact tr_addE h_78738 (⟨by decide, by decide⟩ : 1 ≤ (Int32.ofInt 1 : Int32).toInt ∧ (Int32.ofInt 1 : Int32).toInt ≤ 1) (by decide) (by decide)
                refine lv_iinc (v := v_78745) (lv' := [(4, .int v_78745), (3, .int x_78612), (2, .int x_78613), (0, .ref sv), (1, .ref vs)]) hx hb dX6_bringsAll_122 hl (k := 0) rfl v_78745_e.symm (by decide) rfl (fun ls hl => ?_)
                refine lv_goto (tgt := 87) hx hb dX6_bringsAll_125 (by decide) ?_
                exact ih_78736 v_78745 ls (tr_w h_v_78745 (by decide) (by decide)) (by (first | (clear h_x_78611 c_78615_i h_78616 h_v_78741 c_78742_i h_78743; omega) | omega)) (lv_sub hl [0, 1, 2, 3, 4] rfl)
              · skip
                have c_78742_i := Int32.lt_iff_toInt_lt.mp (Int32.not_le.mp c_78742)
                have h_78744 : 1 ≤ (v_78741 : Int32).toInt ∧ (v_78741 : Int32).toInt ≤ 1 := nr_lt_r (⟨by decide, by decide⟩ : 0 ≤ (0 : Int32).toInt ∧ (0 : Int32).toInt ≤ 0) h_v_78741 c_78742_i (by decide) (by decide)
                refine lv_iload_n hx hb dX6_bringsAll_111 rfl (lv_at hl 2 rfl) ?_
                refine lv_iload hx hb dX6_bringsAll_112 (lv_at hl 0 rfl) ?_
                refine lv_ishr hx hb dX6_bringsAll_114 ?_
                refine lv_topi (fun v_78746 v_78746_e => ?_)
                refine lv_iconst (v := 1) hx hb dX6_bringsAll_115 (by decide) ?_
                refine lv_iand hx hb dX6_bringsAll_116 ?_
                refine lv_topi (fun v_78747 v_78747_e => ?_)
                refine lv_if_ne (tgt := 122) hx hb dX6_bringsAll_117 (by decide) (fun c_78748 => ?_) (fun c_78748 => ?_)
                · skip
                  obtain ⟨v_78750, v_78750_e⟩ : ∃ y : Int32, y = x_78735 + Int32.ofInt 1 := ⟨_, rfl⟩
                  have h_v_78750 : 1 ≤ (v_78750 : Int32).toInt ∧ (v_78750 : Int32).toInt ≤ 12 := by rw [v_78750_e]; exact tr_add h_78738 (⟨by decide, by decide⟩ : 1 ≤ (Int32.ofInt 1 : Int32).toInt ∧ (Int32.ofInt 1 : Int32).toInt ≤ 1) (by decide) (by decide) (by decide) (by decide)
                  have q_v_78750 : v_78750.toInt = x_78735.toInt + 1 := by rw [v_78750_e]; exact tr_addE h_78738 (⟨by decide, by decide⟩ : 1 ≤ (Int32.ofInt 1 : Int32).toInt ∧ (Int32.ofInt 1 : Int32).toInt ≤ 1) (by decide) (by decide)
                  refine lv_iinc (v := v_78750) (lv' := [(4, .int v_78750), (3, .int x_78612), (2, .int x_78613), (0, .ref sv), (1, .ref vs)]) hx hb dX6_bringsAll_122 hl (k := 0) rfl v_78750_e.symm (by decide) rfl (fun ls hl => ?_)
                  refine lv_goto (tgt := 87) hx hb dX6_bringsAll_125 (by decide) ?_
                  exact ih_78736 v_78750 ls (tr_w h_v_78750 (by decide) (by decide)) (by (first | (clear h_x_78611 c_78615_i h_78616 h_v_78741 c_78742_i h_78744; omega) | omega)) (lv_sub hl [0, 1, 2, 3, 4] rfl)
                · skip
                  have h_78749 : 0 ≤ (v_78747 : Int32).toInt ∧ (v_78747 : Int32).toInt ≤ 0 := by rw [c_78748]; exact ⟨by decide, by decide⟩
                  refine lv_iconst (v := 0) hx hb dX6_bringsAll_120 (by decide) ?_
                  exact W.zret (v := 0) hx hb hr (by decide) (fun t ht hW => ⟨0, rfl, (⟨by decide, by decide⟩ : 0 ≤ (0 : Int32).toInt ∧ (0 : Int32).toInt ≤ 1), ht⟩) (fun _ h => nomatch h) dX6_bringsAll_121
        exact lp_78736 13 0 ls (⟨by decide, by decide⟩ : 0 ≤ (0 : Int32).toInt ∧ (0 : Int32).toInt ≤ 12) (by decide) (lv_sub hl [0, 1, 2, 3, 4] rfl)
      · skip
        have c_78615_i := Int32.lt_iff_toInt_lt.mp (Int32.not_le.mp c_78615)
        have h_78617 : 0 ≤ (x_78611 : Int32).toInt ∧ (x_78611 : Int32).toInt ≤ 11 := nr_lt_l h_x_78611 (⟨by decide, by decide⟩ : 12 ≤ (12 : Int32).toInt ∧ (12 : Int32).toInt ≤ 12) c_78615_i (by decide) (by decide)
        refine lv_iload_n hx hb dX6_bringsAll_20 rfl (lv_at hl 2 rfl) ?_
        refine lv_iload_n hx hb dX6_bringsAll_21 rfl (lv_at hl 1 rfl) ?_
        refine lv_icmp_eq (tgt := 84) hx hb dX6_bringsAll_22 (by decide) (fun c_78751 => ?_) (fun c_78751 => ?_)
        · skip
          refine lv_iconst (v := 0) hx hb dX6_bringsAll_84 (by decide) ?_
          refine lv_istore (lv' := [(4, .int 0), (3, .int x_78612), (2, .int x_78613), (0, .ref sv), (1, .ref vs)]) hx hb dX6_bringsAll_85 hl (by decide) rfl (fun ls hl => ?_)
          have lp_78870 : ∀ (n_78870 : Nat) (x_78869 : Int32) (ls : Array Slot), (0 ≤ (x_78869 : Int32).toInt ∧ (x_78869 : Int32).toInt ≤ 12) → (12 - x_78869.toInt < (n_78870 : Int)) → lv_has ls 6 [(4, .int x_78869), (3, .int x_78612), (2, .int x_78613), (0, .ref sv), (1, .ref vs)] → W p l e (headSpec (.code yX6_bringsAll cX6_bringsAll 6 (some .boolean) :: wsL_law) ({ frames := 2, cells := 0, slots := 0, locals := 50 })).room s m args below meth c s.heap [] 0 0 (MQ below (vp_Si (fun r => 0 ≤ (r : Int32).toInt ∧ (r : Int32).toInt ≤ 1)) args s 0 0 (fun _ => False)) (F0 m 87 ls []) := by
            intro n_78870
            induction n_78870 with
            | zero =>
              intro x_78869 ls h_x_78869 hm_78870 hl
              exfalso; omega
            | succ n_78870 ih_78870 =>
              intro x_78869 ls h_x_78869 hm_78870 hl
              refine lv_iload hx hb dX6_bringsAll_87 (lv_at hl 0 rfl) ?_
              refine lv_aload_n hx hb dX6_bringsAll_89 rfl (lv_at hl 3 rfl) ?_
              refine va_get (D := D) (ci := 6) (v := .ref n) (C := RX6) (T := TX6) (N := 4) hx hb hts inlX6 hown hK hP 0 rfl rfl 0 (by decide) (hts (Cond.fieldLink RX6 19 "ChanceRings$Solver" "net" "LChanceRings$Net;") qw_528) (fun _ h9 => h9) rfl dX6_bringsAll_90 ?_
              refine va_get (D := D) (ci := 2) (v := .int n_nodes) (C := RX2) (T := TX2) (N := 8) hx hb hts inlX2 hown hK hP 1 rfl rfl 0 (by decide) (hts (Cond.fieldLink RX6 32 "ChanceRings$Net" "nodes" "I") qw_529) (fun _ h9 => h9) rfl dX6_bringsAll_93 ?_
              refine lv_icmp_ge (tgt := 128) hx hb dX6_bringsAll_96 (by decide) (fun c_78871 => ?_) (fun c_78871 => ?_)
              · skip
                refine lv_iconst (v := 1) hx hb dX6_bringsAll_128 (by decide) ?_
                exact W.zret (v := 1) hx hb hr (by decide) (fun t ht hW => ⟨1, rfl, (⟨by decide, by decide⟩ : 0 ≤ (1 : Int32).toInt ∧ (1 : Int32).toInt ≤ 1), ht⟩) (fun _ h => nomatch h) dX6_bringsAll_129
              · skip
                have c_78871_i := Int32.lt_iff_toInt_lt.mp (Int32.not_le.mp c_78871)
                have h_78872 : 0 ≤ (x_78869 : Int32).toInt ∧ (x_78869 : Int32).toInt ≤ 11 := nr_lt_l h_x_78869 h_n_nodes c_78871_i (by decide) (by decide)
                have h_78873 : 1 ≤ (n_nodes : Int32).toInt ∧ (n_nodes : Int32).toInt ≤ 12 := nr_lt_r h_x_78869 h_n_nodes c_78871_i (by decide) (by decide)
                refine lv_aload_n hx hb dX6_bringsAll_99 rfl (lv_at hl 4 rfl) ?_
                refine va_get (D := D) (ci := 10) (v := .ref vs_part) (C := RX10) (T := TX10) (N := 2) hx hb hts inlX10 hown hK hP 7 rfl rfl 0 (by decide) (hts (Cond.fieldLink RX6 71 "ChanceRings$Values" "part" "[J") qw_533) (fun _ h9 => h9) rfl dX6_bringsAll_100 ?_
                refine lv_iload hx hb dX6_bringsAll_103 (lv_at hl 0 rfl) ?_
                refine va_lald hx hb hK hP 8 1 rfl rfl (tr_in h_78872 (by decide) (by decide)) dX6_bringsAll_105 ?_
                refine lv_topl (fun w_78874 _ => ?_)
                refine lv_lconst (v := 0) hx hb dX6_bringsAll_106 (by decide) ?_
                refine W.lcmp hx hb dX6_bringsAll_107 ?_
                refine lv_topi (fun v_78875 v_78875_e => ?_)
                have h_v_78875 : (-1) ≤ (v_78875 : Int32).toInt ∧ (v_78875 : Int32).toInt ≤ 1 := by rw [v_78875_e]; exact tr_cmp _ _
                refine lv_if_le (tgt := 122) hx hb dX6_bringsAll_108 (by decide) (fun c_78876 => ?_) (fun c_78876 => ?_)
                · skip
                  have c_78876_i := Int32.le_iff_toInt_le.mp c_78876
                  have h_78877 : (-1) ≤ (v_78875 : Int32).toInt ∧ (v_78875 : Int32).toInt ≤ 0 := nr_le_l h_v_78875 (⟨by decide, by decide⟩ : 0 ≤ (0 : Int32).toInt ∧ (0 : Int32).toInt ≤ 0) c_78876_i (by decide) (by decide)
                  obtain ⟨v_78879, v_78879_e⟩ : ∃ y : Int32, y = x_78869 + Int32.ofInt 1 := ⟨_, rfl⟩
                  have h_v_78879 : 1 ≤ (v_78879 : Int32).toInt ∧ (v_78879 : Int32).toInt ≤ 12 := by rw [v_78879_e]; exact tr_add h_78872 (⟨by decide, by decide⟩ : 1 ≤ (Int32.ofInt 1 : Int32).toInt ∧ (Int32.ofInt 1 : Int32).toInt ≤ 1) (by decide) (by decide) (by decide) (by decide)
                  have q_v_78879 : v_78879.toInt = x_78869.toInt + 1 := by rw [v_78879_e]; exact tr_addE h_78872 (⟨by decide, by decide⟩ : 1 ≤ (Int32.ofInt 1 : Int32).toInt ∧ (Int32.ofInt 1 : Int32).toInt ≤ 1) (by decide) (by decide)
                  refine lv_iinc (v := v_78879) (lv' := [(4, .int v_78879), (3, .int x_78612), (2, .int x_78613), (0, .ref sv), (1, .ref vs)]) hx hb dX6_bringsAll_122 hl (k := 0) rfl v_78879_e.symm (by decide) rfl (fun ls hl => ?_)
                  refine lv_goto (tgt := 87) hx hb dX6_bringsAll_125 (by decide) ?_
                  exact ih_78870 v_78879 ls (tr_w h_v_78879 (by decide) (by decide)) (by (first | (clear h_x_78611 c_78615_i h_78617 h_v_78875 c_78876_i h_78877; omega) | omega)) (lv_sub hl [0, 1, 2, 3, 4] rfl)
                · skip
                  have c_78876_i := Int32.lt_iff_toInt_lt.mp (Int32.not_le.mp c_78876)
                  have h_78878 : 1 ≤ (v_78875 : Int32).toInt ∧ (v_78875 : Int32).toInt ≤ 1 := nr_lt_r (⟨by decide, by decide⟩ : 0 ≤ (0 : Int32).toInt ∧ (0 : Int32).toInt ≤ 0) h_v_78875 c_78876_i (by decide) (by decide)
                  refine lv_iload_n hx hb dX6_bringsAll_111 rfl (lv_at hl 2 rfl) ?_
                  refine lv_iload hx hb dX6_bringsAll_112 (lv_at hl 0 rfl) ?_
                  refine lv_ishr hx hb dX6_bringsAll_114 ?_
                  refine lv_topi (fun v_78880 v_78880_e => ?_)
                  refine lv_iconst (v := 1) hx hb dX6_bringsAll_115 (by decide) ?_
                  refine lv_iand hx hb dX6_bringsAll_116 ?_
                  refine lv_topi (fun v_78881 v_78881_e => ?_)
                  refine lv_if_ne (tgt := 122) hx hb dX6_bringsAll_117 (by decide) (fun c_78882 => ?_) (fun c_78882 => ?_)
                  · skip
                    obtain ⟨v_78884, v_78884_e⟩ : ∃ y : Int32, y = x_78869 + Int32.ofInt 1 := ⟨_, rfl⟩
                    have h_v_78884 : 1 ≤ (v_78884 : Int32).toInt ∧ (v_78884 : Int32).toInt ≤ 12 := by rw [v_78884_e]; exact tr_add h_78872 (⟨by decide, by decide⟩ : 1 ≤ (Int32.ofInt 1 : Int32).toInt ∧ (Int32.ofInt 1 : Int32).toInt ≤ 1) (by decide) (by decide) (by decide) (by decide)
                    have q_v_78884 : v_78884.toInt = x_78869.toInt + 1 := by rw [v_78884_e]; exact tr_addE h_78872 (⟨by decide, by decide⟩ : 1 ≤ (Int32.ofInt 1 : Int32).toInt ∧ (Int32.ofInt 1 : Int32).toInt ≤ 1) (by decide) (by decide)
                    refine lv_iinc (v := v_78884) (lv' := [(4, .int v_78884), (3, .int x_78612), (2, .int x_78613), (0, .ref sv), (1, .ref vs)]) hx hb dX6_bringsAll_122 hl (k := 0) rfl v_78884_e.symm (by decide) rfl (fun ls hl => ?_)
                    refine lv_goto (tgt := 87) hx hb dX6_bringsAll_125 (by decide) ?_
                    exact ih_78870 v_78884 ls (tr_w h_v_78884 (by decide) (by decide)) (by (first | (clear h_x_78611 c_78615_i h_78617 h_v_78875 c_78876_i h_78878; omega) | omega)) (lv_sub hl [0, 1, 2, 3, 4] rfl)
                  · skip
                    have h_78883 : 0 ≤ (v_78881 : Int32).toInt ∧ (v_78881 : Int32).toInt ≤ 0 := by rw [c_78882]; exact ⟨by decide, by decide⟩
                    refine lv_iconst (v := 0) hx hb dX6_bringsAll_120 (by decide) ?_
                    exact W.zret (v := 0) hx hb hr (by decide) (fun t ht hW => ⟨0, rfl, (⟨by decide, by decide⟩ : 0 ≤ (0 : Int32).toInt ∧ (0 : Int32).toInt ≤ 1), ht⟩) (fun _ h => nomatch h) dX6_bringsAll_121
          exact lp_78870 13 0 ls (⟨by decide, by decide⟩ : 0 ≤ (0 : Int32).toInt ∧ (0 : Int32).toInt ≤ 12) (by decide) (lv_sub hl [0, 1, 2, 3, 4] rfl)
        · skip
          refine lv_iload_n hx hb dX6_bringsAll_25 rfl (lv_at hl 2 rfl) ?_
          refine lv_istore_n (lv' := [(3, .int x_78613), (4, .int x_78611), (2, .int x_78613), (0, .ref sv), (1, .ref vs)]) hx hb dX6_bringsAll_26 rfl hl (by decide) rfl (fun ls hl => ?_)
          refine lv_iconst (v := 0) hx hb dX6_bringsAll_27 (by decide) ?_
          refine lv_istore (lv' := [(5, .int 0), (3, .int x_78613), (4, .int x_78611), (2, .int x_78613), (0, .ref sv), (1, .ref vs)]) hx hb dX6_bringsAll_28 hl (by decide) rfl (fun ls hl => ?_)
          have lp_79049 : ∀ (n_79049 : Nat) (x_79047 : Int32) (x_79048 : Int32) (ls : Array Slot), (0 ≤ (x_79047 : Int32).toInt ∧ (x_79047 : Int32).toInt ≤ 12) → (12 - x_79047.toInt < (n_79049 : Int)) → lv_has ls 6 [(5, .int x_79047), (3, .int x_78613), (4, .int x_78611), (2, .int x_79048), (0, .ref sv), (1, .ref vs)] → W p l e (headSpec (.code yX6_bringsAll cX6_bringsAll 6 (some .boolean) :: wsL_law) ({ frames := 2, cells := 0, slots := 0, locals := 50 })).room s m args below meth c s.heap [] 0 0 (MQ below (vp_Si (fun r => 0 ≤ (r : Int32).toInt ∧ (r : Int32).toInt ≤ 1)) args s 0 0 (fun _ => False)) (F0 m 30 ls []) := by
            intro n_79049
            induction n_79049 with
            | zero =>
              intro x_79047 x_79048 ls h_x_79047 hm_79049 hl
              exfalso; omega
            | succ n_79049 ih_79049 =>
              intro x_79047 x_79048 ls h_x_79047 hm_79049 hl
              refine lv_iload hx hb dX6_bringsAll_30 (lv_at hl 0 rfl) ?_
              refine lv_aload_n hx hb dX6_bringsAll_32 rfl (lv_at hl 4 rfl) ?_
              refine va_get (D := D) (ci := 6) (v := .ref n) (C := RX6) (T := TX6) (N := 4) hx hb hts inlX6 hown hK hP 0 rfl rfl 0 (by decide) (hts (Cond.fieldLink RX6 19 "ChanceRings$Solver" "net" "LChanceRings$Net;") qw_528) (fun _ h9 => h9) rfl dX6_bringsAll_33 ?_
              refine va_get (D := D) (ci := 2) (v := .int n_nodes) (C := RX2) (T := TX2) (N := 8) hx hb hts inlX2 hown hK hP 1 rfl rfl 0 (by decide) (hts (Cond.fieldLink RX6 32 "ChanceRings$Net" "nodes" "I") qw_529) (fun _ h9 => h9) rfl dX6_bringsAll_36 ?_
              refine lv_icmp_ge (tgt := 78) hx hb dX6_bringsAll_39 (by decide) (fun c_79050 => ?_) (fun c_79050 => ?_)
              · skip
                obtain ⟨v_79053, v_79053_e⟩ : ∃ y : Int32, y = x_78611 + Int32.ofInt 1 := ⟨_, rfl⟩
                have h_v_79053 : 1 ≤ (v_79053 : Int32).toInt ∧ (v_79053 : Int32).toInt ≤ 12 := by rw [v_79053_e]; exact tr_add h_78617 (⟨by decide, by decide⟩ : 1 ≤ (Int32.ofInt 1 : Int32).toInt ∧ (Int32.ofInt 1 : Int32).toInt ≤ 1) (by decide) (by decide) (by decide) (by decide)
                have q_v_79053 : v_79053.toInt = x_78611.toInt + 1 := by rw [v_79053_e]; exact tr_addE h_78617 (⟨by decide, by decide⟩ : 1 ≤ (Int32.ofInt 1 : Int32).toInt ∧ (Int32.ofInt 1 : Int32).toInt ≤ 1) (by decide) (by decide)
                refine lv_iinc (v := v_79053) (lv' := [(4, .int v_79053), (5, .int x_79047), (3, .int x_78613), (2, .int x_79048), (0, .ref sv), (1, .ref vs)]) hx hb dX6_bringsAll_78 hl (k := 2) rfl v_79053_e.symm (by decide) rfl (fun ls hl => ?_)
                refine lv_goto (tgt := 13) hx hb dX6_bringsAll_81 (by decide) ?_
                exact ih_78614 v_79053 x_78613 x_79048 ls (tr_w h_v_79053 (by decide) (by decide)) (by omega) (lv_sub hl [0, 2, 3, 4, 5] rfl)
              · skip
                have c_79050_i := Int32.lt_iff_toInt_lt.mp (Int32.not_le.mp c_79050)
                have h_79051 : 0 ≤ (x_79047 : Int32).toInt ∧ (x_79047 : Int32).toInt ≤ 11 := nr_lt_l h_x_79047 h_n_nodes c_79050_i (by decide) (by decide)
                have h_79052 : 1 ≤ (n_nodes : Int32).toInt ∧ (n_nodes : Int32).toInt ≤ 12 := nr_lt_r h_x_79047 h_n_nodes c_79050_i (by decide) (by decide)
                refine lv_aload_n hx hb dX6_bringsAll_42 rfl (lv_at hl 5 rfl) ?_
                refine va_get (D := D) (ci := 10) (v := .ref vs_part) (C := RX10) (T := TX10) (N := 2) hx hb hts inlX10 hown hK hP 7 rfl rfl 0 (by decide) (hts (Cond.fieldLink RX6 71 "ChanceRings$Values" "part" "[J") qw_533) (fun _ h9 => h9) rfl dX6_bringsAll_43 ?_
                refine lv_iload hx hb dX6_bringsAll_46 (lv_at hl 0 rfl) ?_
                refine va_lald hx hb hK hP 8 1 rfl rfl (tr_in h_79051 (by decide) (by decide)) dX6_bringsAll_48 ?_
                refine lv_topl (fun w_79054 _ => ?_)
                refine lv_lconst (v := 0) hx hb dX6_bringsAll_49 (by decide) ?_
                refine W.lcmp hx hb dX6_bringsAll_50 ?_
                refine lv_topi (fun v_79055 v_79055_e => ?_)
                have h_v_79055 : (-1) ≤ (v_79055 : Int32).toInt ∧ (v_79055 : Int32).toInt ≤ 1 := by rw [v_79055_e]; exact tr_cmp _ _
                refine lv_if_le (tgt := 72) hx hb dX6_bringsAll_51 (by decide) (fun c_79056 => ?_) (fun c_79056 => ?_)
                · skip
                  have c_79056_i := Int32.le_iff_toInt_le.mp c_79056
                  have h_79057 : (-1) ≤ (v_79055 : Int32).toInt ∧ (v_79055 : Int32).toInt ≤ 0 := nr_le_l h_v_79055 (⟨by decide, by decide⟩ : 0 ≤ (0 : Int32).toInt ∧ (0 : Int32).toInt ≤ 0) c_79056_i (by decide) (by decide)
                  obtain ⟨v_79059, v_79059_e⟩ : ∃ y : Int32, y = x_79047 + Int32.ofInt 1 := ⟨_, rfl⟩
                  have h_v_79059 : 1 ≤ (v_79059 : Int32).toInt ∧ (v_79059 : Int32).toInt ≤ 12 := by rw [v_79059_e]; exact tr_add h_79051 (⟨by decide, by decide⟩ : 1 ≤ (Int32.ofInt 1 : Int32).toInt ∧ (Int32.ofInt 1 : Int32).toInt ≤ 1) (by decide) (by decide) (by decide) (by decide)
                  have q_v_79059 : v_79059.toInt = x_79047.toInt + 1 := by rw [v_79059_e]; exact tr_addE h_79051 (⟨by decide, by decide⟩ : 1 ≤ (Int32.ofInt 1 : Int32).toInt ∧ (Int32.ofInt 1 : Int32).toInt ≤ 1) (by decide) (by decide)
                  refine lv_iinc (v := v_79059) (lv' := [(5, .int v_79059), (3, .int x_78613), (4, .int x_78611), (2, .int x_79048), (0, .ref sv), (1, .ref vs)]) hx hb dX6_bringsAll_72 hl (k := 0) rfl v_79059_e.symm (by decide) rfl (fun ls hl => ?_)
                  refine lv_goto (tgt := 30) hx hb dX6_bringsAll_75 (by decide) ?_
                  exact ih_79049 v_79059 x_79048 ls (tr_w h_v_79059 (by decide) (by decide)) (by (first | (clear h_x_78611 c_78615_i h_78617 h_v_79055 c_79056_i h_79057; omega) | omega)) (lv_sub hl [0, 1, 2, 3, 4, 5] rfl)
                · skip
                  have c_79056_i := Int32.lt_iff_toInt_lt.mp (Int32.not_le.mp c_79056)
                  have h_79058 : 1 ≤ (v_79055 : Int32).toInt ∧ (v_79055 : Int32).toInt ≤ 1 := nr_lt_r (⟨by decide, by decide⟩ : 0 ≤ (0 : Int32).toInt ∧ (0 : Int32).toInt ≤ 0) h_v_79055 c_79056_i (by decide) (by decide)
                  refine lv_aload_n hx hb dX6_bringsAll_54 rfl (lv_at hl 4 rfl) ?_
                  refine lv_iload hx hb dX6_bringsAll_55 (lv_at hl 0 rfl) ?_
                  refine lv_iload_n hx hb dX6_bringsAll_57 rfl (lv_at hl 3 rfl) ?_
                  refine lv_aload_n hx hb dX6_bringsAll_58 rfl (lv_at hl 5 rfl) ?_
                  have hPc := hP.sub (ws' := [(wO6 sv n co sv_keep sv_scaled), (wO2 n n_nodes n_kind n_pay n_name n_ways n_held n_targets n_weights), (wI g n_kind 0 12 n_fkind), (wI g n_pay 0 12 n_fpay), (wI g n_ways 0 12 n_fways), (wI g n_held 0 12 n_fheld), (wI g n_targets 0 36 n_ftargets), (wO10 vs vs_part vsw), (wJ g vs_part 1 12 vsp), (wI g sv_keep 0 12 kpf)]) [0, 1, 2, 3, 4, 5, 6, 7, 8, 9] rfl
                  refine vp_callSi (va_Run.run (va_runV (As := [.int x_79047, .int x_79048, .ref vs]) (rest := []) ⟨hx, hb, hml, hown, hts⟩ (c_X6_isBrought l D g sv x_79047 x_79048 vs n co sv_keep sv_scaled n_nodes n_kind n_pay n_name n_ways n_held n_targets n_weights n_fkind n_fpay n_fways n_fheld n_ftargets vs_part vsw vsp kpf (tr_w h_79051 (by decide) (by decide)) (tr_w h_79052 (by decide) (by decide)) (tr_wa h_n_fkind (by decide) (by decide)) (tr_wa h_n_fways (by decide) (by decide)) (tr_wa h_n_fheld (by decide) (by decide)) (tr_wa h_n_ftargets (by decide) (by decide))) (cwV 3 hts (tz_gV qw_569 qw_570 qw_571 qw_538 qw_572) rfl rfl rfl (by decide +kernel) ⟨Nat.le_of_ble_eq_true rfl, Nat.le_of_ble_eq_true rfl⟩) ⟨tz_blS, va_recv hK hPc (ci := 6) (q0 := 0) rfl rfl, tz_preS hPc hK⟩ rfl rfl hl.1 rfl (lv_room (Nat.le_of_ble_eq_true rfl)) dX6_bringsAll_59 ⟨Nat.le_of_ble_eq_true rfl, Nat.le_of_ble_eq_true rfl⟩)) (fun r_79060 hw => ?_)
                  have hw_79061 : 0 ≤ (r_79060 : Int32).toInt ∧ (r_79060 : Int32).toInt ≤ 1 := hw
                  refine lv_if_eq (tgt := 72) hx hb dX6_bringsAll_62 (by decide) (fun c_79062 => ?_) (fun c_79062 => ?_)
                  · skip
                    have c_79062_i : (r_79060 : Int32).toInt = (0 : Int32).toInt := congrArg Int32.toInt c_79062
                    have h_79063 : 0 ≤ (r_79060 : Int32).toInt ∧ (r_79060 : Int32).toInt ≤ 0 := nr_eq_l hw_79061 (⟨by decide, by decide⟩ : 0 ≤ (0 : Int32).toInt ∧ (0 : Int32).toInt ≤ 0) c_79062_i (by decide) (by decide)
                    obtain ⟨v_79065, v_79065_e⟩ : ∃ y : Int32, y = x_79047 + Int32.ofInt 1 := ⟨_, rfl⟩
                    have h_v_79065 : 1 ≤ (v_79065 : Int32).toInt ∧ (v_79065 : Int32).toInt ≤ 12 := by rw [v_79065_e]; exact tr_add h_79051 (⟨by decide, by decide⟩ : 1 ≤ (Int32.ofInt 1 : Int32).toInt ∧ (Int32.ofInt 1 : Int32).toInt ≤ 1) (by decide) (by decide) (by decide) (by decide)
                    have q_v_79065 : v_79065.toInt = x_79047.toInt + 1 := by rw [v_79065_e]; exact tr_addE h_79051 (⟨by decide, by decide⟩ : 1 ≤ (Int32.ofInt 1 : Int32).toInt ∧ (Int32.ofInt 1 : Int32).toInt ≤ 1) (by decide) (by decide)
                    refine lv_iinc (v := v_79065) (lv' := [(5, .int v_79065), (3, .int x_78613), (4, .int x_78611), (2, .int x_79048), (0, .ref sv), (1, .ref vs)]) hx hb dX6_bringsAll_72 hl (k := 0) rfl v_79065_e.symm (by decide) rfl (fun ls hl => ?_)
                    refine lv_goto (tgt := 30) hx hb dX6_bringsAll_75 (by decide) ?_
                    exact ih_79049 v_79065 x_79048 ls (tr_w h_v_79065 (by decide) (by decide)) (by (first | (clear h_x_78611 c_78615_i h_78617 h_v_79055 c_79056_i h_79058 hw_79061 c_79062_i h_79063; omega) | omega)) (lv_sub hl [0, 1, 2, 3, 4, 5] rfl)
                  · skip
                    have c_79062_i : ¬ (r_79060 : Int32).toInt = (0 : Int32).toInt := (fun q => c_79062 (Int32.toInt_inj.mp q))
                    have h_79064 : 1 ≤ (r_79060 : Int32).toInt ∧ (r_79060 : Int32).toInt ≤ 1 := nr_ne_l hw_79061 (⟨by decide, by decide⟩ : 0 ≤ (0 : Int32).toInt ∧ (0 : Int32).toInt ≤ 0) c_79062_i (by decide) (by decide)
                    refine lv_iload_n hx hb dX6_bringsAll_65 rfl (lv_at hl 3 rfl) ?_
                    refine lv_iconst (v := 1) hx hb dX6_bringsAll_66 (by decide) ?_
                    refine lv_iload hx hb dX6_bringsAll_67 (lv_at hl 0 rfl) ?_
                    refine lv_ishl hx hb dX6_bringsAll_69 ?_
                    refine lv_topi (fun v_79066 v_79066_e => ?_)
                    refine lv_ior hx hb dX6_bringsAll_70 ?_
                    refine lv_topi (fun v_79067 v_79067_e => ?_)
                    refine lv_istore_n (lv' := [(2, .int v_79067), (5, .int x_79047), (3, .int x_78613), (4, .int x_78611), (0, .ref sv), (1, .ref vs)]) hx hb dX6_bringsAll_71 rfl hl (by decide) rfl (fun ls hl => ?_)
                    obtain ⟨v_79068, v_79068_e⟩ : ∃ y : Int32, y = x_79047 + Int32.ofInt 1 := ⟨_, rfl⟩
                    have h_v_79068 : 1 ≤ (v_79068 : Int32).toInt ∧ (v_79068 : Int32).toInt ≤ 12 := by rw [v_79068_e]; exact tr_add h_79051 (⟨by decide, by decide⟩ : 1 ≤ (Int32.ofInt 1 : Int32).toInt ∧ (Int32.ofInt 1 : Int32).toInt ≤ 1) (by decide) (by decide) (by decide) (by decide)
                    have q_v_79068 : v_79068.toInt = x_79047.toInt + 1 := by rw [v_79068_e]; exact tr_addE h_79051 (⟨by decide, by decide⟩ : 1 ≤ (Int32.ofInt 1 : Int32).toInt ∧ (Int32.ofInt 1 : Int32).toInt ≤ 1) (by decide) (by decide)
                    refine lv_iinc (v := v_79068) (lv' := [(5, .int v_79068), (2, .int v_79067), (3, .int x_78613), (4, .int x_78611), (0, .ref sv), (1, .ref vs)]) hx hb dX6_bringsAll_72 hl (k := 1) rfl v_79068_e.symm (by decide) rfl (fun ls hl => ?_)
                    refine lv_goto (tgt := 30) hx hb dX6_bringsAll_75 (by decide) ?_
                    exact ih_79049 v_79068 v_79067 ls (tr_w h_v_79068 (by decide) (by decide)) (by (first | (clear h_x_78611 c_78615_i h_78617 h_v_79055 c_79056_i h_79058 hw_79061 c_79062_i h_79064; omega) | omega)) (lv_sub hl [0, 2, 3, 1, 4, 5] rfl)
          exact lp_79049 13 0 x_78613 ls (⟨by decide, by decide⟩ : 0 ≤ (0 : Int32).toInt ∧ (0 : Int32).toInt ≤ 12) (by decide) (lv_sub hl [0, 1, 2, 3, 4, 5] rfl)
  exact lp_78614 13 0 (-1) r_75928 ls (⟨by decide, by decide⟩ : 0 ≤ (0 : Int32).toInt ∧ (0 : Int32).toInt ≤ 12) (by decide) (lv_sub hl [0, 1, 2, 3, 4] rfl)
set_option maxHeartbeats 4000000 in
set_option maxRecDepth 100000 in
theorem c_X6_goodOf (l : Launch) (D : va_G) (g : Nat → ClassId) (sz : Nat) (sv : Nat) (p0 : Int32) (vs : Nat) (n : Nat) (co : Nat) (sv_keep : Nat) (sv_scaled : Nat) (n_nodes : Int32) (n_kind : Nat) (n_pay : Nat) (n_name : Nat) (n_ways : Nat) (n_held : Nat) (n_targets : Nat) (n_weights : Nat) (n_fkind : Nat → Int32) (n_fpay : Nat → Int32) (n_fways : Nat → Int32) (n_fheld : Nat → Int32) (n_ftargets : Nat → Int32) (vs_part : Nat) (vsw : Int64) (vsp : Nat → Int64) (kpf : Nat → Int32) (h_p0 : 0 ≤ (p0 : Int32).toInt ∧ (p0 : Int32).toInt ≤ 11) (h_n_nodes : 0 ≤ (n_nodes : Int32).toInt ∧ (n_nodes : Int32).toInt ≤ 12) (h_n_fkind : ∀ j : Nat, 0 ≤ (n_fkind j).toInt ∧ (n_fkind j).toInt ≤ 3) (h_n_fways : ∀ j : Nat, 0 ≤ (n_fways j).toInt ∧ (n_fways j).toInt ≤ 3) (h_n_fheld : ∀ j : Nat, (-1) ≤ (n_fheld j).toInt ∧ (n_fheld j).toInt ≤ 2) (h_n_ftargets : ∀ j : Nat, 0 ≤ (n_ftargets j).toInt ∧ (n_ftargets j).toInt ≤ 11) : Met l yX6_goodOf (.code yX6_goodOf cX6_goodOf 6 (some .int) :: wsL_law) ({ frames := 3, cells := 0, slots := 0, locals := 75 }) (va_Pc [.ref sv, .int p0, .ref vs] (fun U => U.heap.size = sz ∧ va_P D vwCl [(wO6 sv n co sv_keep sv_scaled), (wO2 n n_nodes n_kind n_pay n_name n_ways n_held n_targets n_weights), (wI g n_kind 0 12 n_fkind), (wI g n_pay 0 12 n_fpay), (wI g n_ways 0 12 n_fways), (wI g n_held 0 12 n_fheld), (wI g n_targets 0 36 n_ftargets), (wO10 vs vs_part vsw), (wJ g vs_part 1 12 vsp), (wI g sv_keep 0 12 kpf)] U.heap ∧ va_K D vwCl (TY g) U ∧ va_D (fun _ => True) [(wO6 sv n co sv_keep sv_scaled), (wO2 n n_nodes n_kind n_pay n_name n_ways n_held n_targets n_weights), (wI g n_kind 0 12 n_fkind), (wI g n_pay 0 12 n_fpay), (wI g n_ways 0 12 n_fways), (wI g n_held 0 12 n_fheld), (wI g n_targets 0 36 n_ftargets), (wO10 vs vs_part vsw), (wJ g vs_part 1 12 vsp), (wI g sv_keep 0 12 kpf)])) (va_Qi (fun r (_ : Unit) => True) (fun _ t => ∃ okp : Nat → Int32, va_P D vwCl [(wO6 sv n co sv_keep sv_scaled), (wO2 n n_nodes n_kind n_pay n_name n_ways n_held n_targets n_weights), (wI g n_kind 0 12 n_fkind), (wI g n_pay 0 12 n_fpay), (wI g n_ways 0 12 n_fways), (wI g n_held 0 12 n_fheld), (wI g n_targets 0 36 n_ftargets), (wO10 vs vs_part vsw), (wJ g vs_part 1 12 vsp), (wI g sv_keep 0 12 okp)] t.heap ∧ va_D (va_A [(wO6 sv n co sv_keep sv_scaled), (wO2 n n_nodes n_kind n_pay n_name n_ways n_held n_targets n_weights), (wI g n_kind 0 12 n_fkind), (wI g n_pay 0 12 n_fpay), (wI g n_ways 0 12 n_fways), (wI g n_held 0 12 n_fheld), (wI g n_targets 0 36 n_ftargets), (wO10 vs vs_part vsw), (wJ g vs_part 1 12 vsp), (wI g sv_keep 0 12 kpf)] sz) [(wO6 sv n co sv_keep sv_scaled), (wO2 n n_nodes n_kind n_pay n_name n_ways n_held n_targets n_weights), (wI g n_kind 0 12 n_fkind), (wI g n_pay 0 12 n_fpay), (wI g n_ways 0 12 n_fways), (wI g n_held 0 12 n_fheld), (wI g n_targets 0 36 n_ftargets), (wO10 vs vs_part vsw), (wJ g vs_part 1 12 vsp), (wI g sv_keep 0 12 okp)]) (va_A [(wO6 sv n co sv_keep sv_scaled), (wO2 n n_nodes n_kind n_pay n_name n_ways n_held n_targets n_weights), (wI g n_kind 0 12 n_fkind), (wI g n_pay 0 12 n_fpay), (wI g n_ways 0 12 n_fways), (wI g n_held 0 12 n_fheld), (wI g n_targets 0 36 n_ftargets), (wO10 vs vs_part vsw), (wJ g vs_part 1 12 vsp), (wI g sv_keep 0 12 kpf)] sz)) 0 0 (va_A [(wO6 sv n co sv_keep sv_scaled), (wO2 n n_nodes n_kind n_pay n_name n_ways n_held n_targets n_weights), (wI g n_kind 0 12 n_fkind), (wI g n_pay 0 12 n_fpay), (wI g n_ways 0 12 n_fways), (wI g n_held 0 12 n_fheld), (wI g n_targets 0 36 n_ftargets), (wO10 vs vs_part vsw), (wJ g vs_part 1 12 vsp), (wI g sv_keep 0 12 kpf)] sz) := by
  refine Met.ofW (cc := cX6_goodOf) (maxL := 6) (ret := (some .int)) (by decide) rfl ?_
  intro p e s m args below meth c s₁ B hml hv
  obtain ⟨ha, hsz, hP, hK, hD0⟩ := hv
  have hx := B.exec
  have hb := B.bytes
  have hr := B.returns
  have hts0 := atoms_spec (ws := (.code yX6_goodOf cX6_goodOf 6 (some .int) :: wsL_law)) B.pre
  have hts : ∀ w ∈ wsL_law, w.before args s = true := fun w h => hts0 w (List.mem_cons_of_mem _ h)
  have hown : s.vm.findClass RX6 = some m.cls := findClass_of_methodNamed B.named
  have hlocks := B.notSynchronized
  subst hsz
  have hD := hD0.self (sz := s.heap.size)
  generalize hAe : va_A [(wO6 sv n co sv_keep sv_scaled), (wO2 n n_nodes n_kind n_pay n_name n_ways n_held n_targets n_weights), (wI g n_kind 0 12 n_fkind), (wI g n_pay 0 12 n_fpay), (wI g n_ways 0 12 n_fways), (wI g n_held 0 12 n_fheld), (wI g n_targets 0 36 n_ftargets), (wO10 vs vs_part vsw), (wJ g vs_part 1 12 vsp), (wI g sv_keep 0 12 kpf)] s.heap.size = A at hD ⊢
  have hA : ∀ q : Nat, s.heap.size ≤ q → A q := fun q h => by rw [← hAe]; exact Or.inr h
  have hS : va_S A s.heap s.heap [] := va_S.rf
  have hP : va_P D vwCl [(wO6 sv n co sv_keep sv_scaled), (wO2 n n_nodes n_kind n_pay n_name n_ways n_held n_targets n_weights), (wI g n_kind 0 12 n_fkind), (wI g n_pay 0 12 n_fpay), (wI g n_ways 0 12 n_fways), (wI g n_held 0 12 n_fheld), (wI g n_targets 0 36 n_ftargets), (wO10 vs vs_part vsw), (wJ g vs_part 1 12 vsp), (wI g sv_keep 0 12 kpf)] s.heap := hP
  refine W.eq (g2 := entryFrame m ([.ref sv, .int p0, .ref vs] : List Value).toArray 6) (by rw [ha]) ?_
  have hl := lv_entry ([.ref sv, .int p0, .ref vs]) (n := 6) (Nat.le_of_ble_eq_true rfl)
  rw [lg_entry_eq]
  generalize (lg_sl ([.ref sv, .int p0, .ref vs]) ++ List.replicate (6 - (lg_sl ([.ref sv, .int p0, .ref vs])).length) Slot.unset).toArray = ls at hl ⊢
  have hl : lv_has ls 6 [(0, .ref sv), (1, .int p0), (2, .ref vs)] := hl
  refine lv_aload_n hx hb dX6_goodOf_0 rfl (lv_at hl 0 rfl) ?_
  refine va_get (D := D) (ci := 6) (v := .ref sv_keep) (C := RX6) (T := TX6) (N := 4) hx hb hts inlX6 hown hK hP 0 rfl rfl 2 (by decide) (hts (Cond.fieldLink RX6 9 "ChanceRings$Solver" "keep" "[I") qw_567) (fun _ h9 => h9) rfl dX6_goodOf_1 ?_
  refine lv_iload_n hx hb dX6_goodOf_4 rfl (lv_at hl 1 rfl) ?_
  refine va_iald hx hb hK hP 9 0 rfl rfl (tr_in h_p0 (by decide) (by decide)) dX6_goodOf_5 ?_
  refine lv_topi (fun v_79069 v_79069_e => ?_)
  refine lv_istore_n (lv' := [(3, .int v_79069), (0, .ref sv), (1, .int p0), (2, .ref vs)]) hx hb dX6_goodOf_6 rfl hl (by decide) rfl (fun ls hl => ?_)
  refine lv_aload_n hx hb dX6_goodOf_7 rfl (lv_at hl 1 rfl) ?_
  refine va_get (D := D) (ci := 6) (v := .ref n) (C := RX6) (T := TX6) (N := 4) hx hb hts inlX6 hown hK hP 0 rfl rfl 0 (by decide) (hts (Cond.fieldLink RX6 19 "ChanceRings$Solver" "net" "LChanceRings$Net;") qw_528) (fun _ h9 => h9) rfl dX6_goodOf_8 ?_
  refine va_get (D := D) (ci := 2) (v := .ref n_kind) (C := RX2) (T := TX2) (N := 8) hx hb hts inlX2 hown hK hP 1 rfl rfl 1 (by decide) (hts (Cond.fieldLink RX6 61 "ChanceRings$Net" "kind" "[I") qw_531) (fun _ h9 => h9) rfl dX6_goodOf_11 ?_
  refine lv_iload_n hx hb dX6_goodOf_14 rfl (lv_at hl 2 rfl) ?_
  refine va_iald hx hb hK hP 2 0 rfl rfl (tr_in h_p0 (by decide) (by decide)) dX6_goodOf_15 ?_
  refine lv_topi (fun v_79070 v_79070_e => ?_)
  have h_v_79070 : 0 ≤ (v_79070 : Int32).toInt ∧ (v_79070 : Int32).toInt ≤ 3 := by rw [v_79070_e]; exact h_n_fkind _
  refine lv_iconst (v := 2) hx hb dX6_goodOf_16 (by decide) ?_
  refine lv_icmp_ne (tgt := 22) hx hb dX6_goodOf_17 (by decide) (fun c_79071 => ?_) (fun c_79071 => ?_)
  · skip
    refine lv_iconst (v := 0) hx hb dX6_goodOf_22 (by decide) ?_
    refine lv_istore (lv' := [(4, .int 0), (3, .int v_79069), (0, .ref sv), (1, .int p0), (2, .ref vs)]) hx hb dX6_goodOf_23 hl (by decide) rfl (fun ls hl => ?_)
    refine lv_iconst (v := 0) hx hb dX6_goodOf_25 (by decide) ?_
    refine lv_istore (lv' := [(5, .int 0), (4, .int 0), (3, .int v_79069), (0, .ref sv), (1, .int p0), (2, .ref vs)]) hx hb dX6_goodOf_26 hl (by decide) rfl (fun ls hl => ?_)
    have lp_79163 : ∀ (n_79163 : Nat) (x_79160 : Int32) (f_79161 : Nat → Int32) (x_79162 : Int32) (H : Heap) (locs : List Loc) (ls : Array Slot), (0 ≤ (x_79160 : Int32).toInt ∧ (x_79160 : Int32).toInt ≤ 3) → (3 - x_79160.toInt < (n_79163 : Int)) → va_P D vwCl [(wO6 sv n co sv_keep sv_scaled), (wO2 n n_nodes n_kind n_pay n_name n_ways n_held n_targets n_weights), (wI g n_kind 0 12 n_fkind), (wI g n_pay 0 12 n_fpay), (wI g n_ways 0 12 n_fways), (wI g n_held 0 12 n_fheld), (wI g n_targets 0 36 n_ftargets), (wO10 vs vs_part vsw), (wJ g vs_part 1 12 vsp), (wI g sv_keep 0 12 f_79161)] H → va_D A [(wO6 sv n co sv_keep sv_scaled), (wO2 n n_nodes n_kind n_pay n_name n_ways n_held n_targets n_weights), (wI g n_kind 0 12 n_fkind), (wI g n_pay 0 12 n_fpay), (wI g n_ways 0 12 n_fways), (wI g n_held 0 12 n_fheld), (wI g n_targets 0 36 n_ftargets), (wO10 vs vs_part vsw), (wJ g vs_part 1 12 vsp), (wI g sv_keep 0 12 f_79161)] → va_S A s.heap H locs → lv_has ls 6 [(5, .int x_79160), (4, .int x_79162), (3, .int v_79069), (0, .ref sv), (1, .int p0), (2, .ref vs)] → W p l e (headSpec (.code yX6_goodOf cX6_goodOf 6 (some .int) :: wsL_law) ({ frames := 3, cells := 0, slots := 0, locals := 75 })).room s m args below meth c H locs 0 0 (MQ below (va_Qi (fun r (_ : Unit) => True) (fun _ t => ∃ okp : Nat → Int32, va_P D vwCl [(wO6 sv n co sv_keep sv_scaled), (wO2 n n_nodes n_kind n_pay n_name n_ways n_held n_targets n_weights), (wI g n_kind 0 12 n_fkind), (wI g n_pay 0 12 n_fpay), (wI g n_ways 0 12 n_fways), (wI g n_held 0 12 n_fheld), (wI g n_targets 0 36 n_ftargets), (wO10 vs vs_part vsw), (wJ g vs_part 1 12 vsp), (wI g sv_keep 0 12 okp)] t.heap ∧ va_D A [(wO6 sv n co sv_keep sv_scaled), (wO2 n n_nodes n_kind n_pay n_name n_ways n_held n_targets n_weights), (wI g n_kind 0 12 n_fkind), (wI g n_pay 0 12 n_fpay), (wI g n_ways 0 12 n_fways), (wI g n_held 0 12 n_fheld), (wI g n_targets 0 36 n_ftargets), (wO10 vs vs_part vsw), (wJ g vs_part 1 12 vsp), (wI g sv_keep 0 12 okp)]) A) args s 0 0 A) (F0 m 28 ls []) := by
      intro n_79163
      induction n_79163 with
      | zero =>
        intro x_79160 f_79161 x_79162 H locs ls h_x_79160 hm_79163 hP hD hS hl
        exfalso; omega
      | succ n_79163 ih_79163 =>
        intro x_79160 f_79161 x_79162 H locs ls h_x_79160 hm_79163 hP hD hS hl
        refine lv_iload hx hb dX6_goodOf_28 (lv_at hl 0 rfl) ?_
        refine lv_aload_n hx hb dX6_goodOf_30 rfl (lv_at hl 3 rfl) ?_
        refine va_get (D := D) (ci := 6) (v := .ref n) (C := RX6) (T := TX6) (N := 4) hx hb hts inlX6 hown hK hP 0 rfl rfl 0 (by decide) (hts (Cond.fieldLink RX6 19 "ChanceRings$Solver" "net" "LChanceRings$Net;") qw_528) (fun _ h9 => h9) rfl dX6_goodOf_31 ?_
        refine va_get (D := D) (ci := 2) (v := .ref n_ways) (C := RX2) (T := TX2) (N := 8) hx hb hts inlX2 hown hK hP 1 rfl rfl 4 (by decide) (hts (Cond.fieldLink RX6 68 "ChanceRings$Net" "ways" "[I") qw_532) (fun _ h9 => h9) rfl dX6_goodOf_34 ?_
        refine lv_iload_n hx hb dX6_goodOf_37 rfl (lv_at hl 4 rfl) ?_
        refine va_iald hx hb hK hP 4 0 rfl rfl (tr_in h_p0 (by decide) (by decide)) dX6_goodOf_38 ?_
        refine lv_topi (fun v_79164 v_79164_e => ?_)
        have h_v_79164 : 0 ≤ (v_79164 : Int32).toInt ∧ (v_79164 : Int32).toInt ≤ 3 := by rw [v_79164_e]; exact h_n_fways _
        refine lv_icmp_ge (tgt := 86) hx hb dX6_goodOf_39 (by decide) (fun c_79165 => ?_) (fun c_79165 => ?_)
        · skip
          refine lv_aload_n hx hb dX6_goodOf_86 rfl (lv_at hl 3 rfl) ?_
          refine va_get (D := D) (ci := 6) (v := .ref sv_keep) (C := RX6) (T := TX6) (N := 4) hx hb hts inlX6 hown hK hP 0 rfl rfl 2 (by decide) (hts (Cond.fieldLink RX6 9 "ChanceRings$Solver" "keep" "[I") qw_567) (fun _ h9 => h9) rfl dX6_goodOf_87 ?_
          refine lv_iload_n hx hb dX6_goodOf_90 rfl (lv_at hl 4 rfl) ?_
          refine lv_iload_n hx hb dX6_goodOf_91 rfl (lv_at hl 2 rfl) ?_
          refine va_iast hx hb hK hP hD hS 9 0 rfl rfl (tr_in h_p0 (by decide) (by decide)) dX6_goodOf_92 (fun H locs hP hD hS => ?_)
          obtain ⟨f_79168, hP, hD⟩ : ∃ FX : Nat → Int32, va_P D vwCl [(wO6 sv n co sv_keep sv_scaled), (wO2 n n_nodes n_kind n_pay n_name n_ways n_held n_targets n_weights), (wI g n_kind 0 12 n_fkind), (wI g n_pay 0 12 n_fpay), (wI g n_ways 0 12 n_fways), (wI g n_held 0 12 n_fheld), (wI g n_targets 0 36 n_ftargets), (wO10 vs vs_part vsw), (wJ g vs_part 1 12 vsp), (wI g sv_keep 0 12 FX)] H ∧ va_D A [(wO6 sv n co sv_keep sv_scaled), (wO2 n n_nodes n_kind n_pay n_name n_ways n_held n_targets n_weights), (wI g n_kind 0 12 n_fkind), (wI g n_pay 0 12 n_fpay), (wI g n_ways 0 12 n_fways), (wI g n_held 0 12 n_fheld), (wI g n_targets 0 36 n_ftargets), (wO10 vs vs_part vsw), (wJ g vs_part 1 12 vsp), (wI g sv_keep 0 12 FX)] := ⟨_, hP, hD⟩
          have hP : va_P D vwCl [(wO6 sv n co sv_keep sv_scaled), (wO2 n n_nodes n_kind n_pay n_name n_ways n_held n_targets n_weights), (wI g n_kind 0 12 n_fkind), (wI g n_pay 0 12 n_fpay), (wI g n_ways 0 12 n_fways), (wI g n_held 0 12 n_fheld), (wI g n_targets 0 36 n_ftargets), (wO10 vs vs_part vsw), (wJ g vs_part 1 12 vsp), (wI g sv_keep 0 12 f_79168)] H := hP
          have hD : va_D A [(wO6 sv n co sv_keep sv_scaled), (wO2 n n_nodes n_kind n_pay n_name n_ways n_held n_targets n_weights), (wI g n_kind 0 12 n_fkind), (wI g n_pay 0 12 n_fpay), (wI g n_ways 0 12 n_fways), (wI g n_held 0 12 n_fheld), (wI g n_targets 0 36 n_ftargets), (wO10 vs vs_part vsw), (wJ g vs_part 1 12 vsp), (wI g sv_keep 0 12 f_79168)] := hD
          refine lv_iload hx hb dX6_goodOf_93 (lv_at hl 1 rfl) ?_
          have hP9 := hP.sub (ws' := [(wO6 sv n co sv_keep sv_scaled), (wO2 n n_nodes n_kind n_pay n_name n_ways n_held n_targets n_weights), (wI g n_kind 0 12 n_fkind), (wI g n_pay 0 12 n_fpay), (wI g n_ways 0 12 n_fways), (wI g n_held 0 12 n_fheld), (wI g n_targets 0 36 n_ftargets), (wO10 vs vs_part vsw), (wJ g vs_part 1 12 vsp), (wI g sv_keep 0 12 f_79168)]) [0, 1, 2, 3, 4, 5, 6, 7, 8, 9] rfl
          have hD9 := hD.sub (ws' := [(wO6 sv n co sv_keep sv_scaled), (wO2 n n_nodes n_kind n_pay n_name n_ways n_held n_targets n_weights), (wI g n_kind 0 12 n_fkind), (wI g n_pay 0 12 n_fpay), (wI g n_ways 0 12 n_fways), (wI g n_held 0 12 n_fheld), (wI g n_targets 0 36 n_ftargets), (wO10 vs vs_part vsw), (wJ g vs_part 1 12 vsp), (wI g sv_keep 0 12 f_79168)]) [0, 1, 2, 3, 4, 5, 6, 7, 8, 9] (by decide) rfl
          exact W.iret (v := x_79162) hx hb hr (fun t ht hW => ⟨⟨x_79162, (), rfl, trivial, f_79168, by rw [ht]; exact hP9, hD9⟩, hS.F ht⟩) hS.2.2 dX6_goodOf_95
        · skip
          have c_79165_i := Int32.lt_iff_toInt_lt.mp (Int32.not_le.mp c_79165)
          have h_79166 : 0 ≤ (x_79160 : Int32).toInt ∧ (x_79160 : Int32).toInt ≤ 2 := nr_lt_l h_x_79160 h_v_79164 c_79165_i (by decide) (by decide)
          have h_79167 : 1 ≤ (v_79164 : Int32).toInt ∧ (v_79164 : Int32).toInt ≤ 3 := nr_lt_r h_x_79160 h_v_79164 c_79165_i (by decide) (by decide)
          refine lv_aload_n hx hb dX6_goodOf_42 rfl (lv_at hl 3 rfl) ?_
          refine va_get (D := D) (ci := 6) (v := .ref sv_keep) (C := RX6) (T := TX6) (N := 4) hx hb hts inlX6 hown hK hP 0 rfl rfl 2 (by decide) (hts (Cond.fieldLink RX6 9 "ChanceRings$Solver" "keep" "[I") qw_567) (fun _ h9 => h9) rfl dX6_goodOf_43 ?_
          refine lv_iload_n hx hb dX6_goodOf_46 rfl (lv_at hl 4 rfl) ?_
          refine lv_iload_n hx hb dX6_goodOf_47 rfl (lv_at hl 2 rfl) ?_
          refine lv_iconst (v := 1) hx hb dX6_goodOf_48 (by decide) ?_
          refine lv_iload hx hb dX6_goodOf_49 (lv_at hl 0 rfl) ?_
          refine lv_ishl hx hb dX6_goodOf_51 ?_
          refine lv_topi (fun v_79169 v_79169_e => ?_)
          refine lv_iand hx hb dX6_goodOf_52 ?_
          refine lv_topi (fun v_79170 v_79170_e => ?_)
          refine va_iast hx hb hK hP hD hS 9 0 rfl rfl (tr_in h_p0 (by decide) (by decide)) dX6_goodOf_53 (fun H locs hP hD hS => ?_)
          obtain ⟨f_79171, hP, hD⟩ : ∃ FX : Nat → Int32, va_P D vwCl [(wO6 sv n co sv_keep sv_scaled), (wO2 n n_nodes n_kind n_pay n_name n_ways n_held n_targets n_weights), (wI g n_kind 0 12 n_fkind), (wI g n_pay 0 12 n_fpay), (wI g n_ways 0 12 n_fways), (wI g n_held 0 12 n_fheld), (wI g n_targets 0 36 n_ftargets), (wO10 vs vs_part vsw), (wJ g vs_part 1 12 vsp), (wI g sv_keep 0 12 FX)] H ∧ va_D A [(wO6 sv n co sv_keep sv_scaled), (wO2 n n_nodes n_kind n_pay n_name n_ways n_held n_targets n_weights), (wI g n_kind 0 12 n_fkind), (wI g n_pay 0 12 n_fpay), (wI g n_ways 0 12 n_fways), (wI g n_held 0 12 n_fheld), (wI g n_targets 0 36 n_ftargets), (wO10 vs vs_part vsw), (wJ g vs_part 1 12 vsp), (wI g sv_keep 0 12 FX)] := ⟨_, hP, hD⟩
          have hP : va_P D vwCl [(wO6 sv n co sv_keep sv_scaled), (wO2 n n_nodes n_kind n_pay n_name n_ways n_held n_targets n_weights), (wI g n_kind 0 12 n_fkind), (wI g n_pay 0 12 n_fpay), (wI g n_ways 0 12 n_fways), (wI g n_held 0 12 n_fheld), (wI g n_targets 0 36 n_ftargets), (wO10 vs vs_part vsw), (wJ g vs_part 1 12 vsp), (wI g sv_keep 0 12 f_79171)] H := hP
          have hD : va_D A [(wO6 sv n co sv_keep sv_scaled), (wO2 n n_nodes n_kind n_pay n_name n_ways n_held n_targets n_weights), (wI g n_kind 0 12 n_fkind), (wI g n_pay 0 12 n_fpay), (wI g n_ways 0 12 n_fways), (wI g n_held 0 12 n_fheld), (wI g n_targets 0 36 n_ftargets), (wO10 vs vs_part vsw), (wJ g vs_part 1 12 vsp), (wI g sv_keep 0 12 f_79171)] := hD
          refine lv_aload_n hx hb dX6_goodOf_54 rfl (lv_at hl 3 rfl) ?_
          refine va_get (D := D) (ci := 6) (v := .ref sv_keep) (C := RX6) (T := TX6) (N := 4) hx hb hts inlX6 hown hK hP 0 rfl rfl 2 (by decide) (hts (Cond.fieldLink RX6 9 "ChanceRings$Solver" "keep" "[I") qw_567) (fun _ h9 => h9) rfl dX6_goodOf_55 ?_
          refine lv_iload_n hx hb dX6_goodOf_58 rfl (lv_at hl 4 rfl) ?_
          refine va_iald hx hb hK hP 9 0 rfl rfl (tr_in h_p0 (by decide) (by decide)) dX6_goodOf_59 ?_
          refine lv_topi (fun v_79172 v_79172_e => ?_)
          refine lv_if_eq (tgt := 80) hx hb dX6_goodOf_60 (by decide) (fun c_79173 => ?_) (fun c_79173 => ?_)
          · skip
            have h_79174 : 0 ≤ (v_79172 : Int32).toInt ∧ (v_79172 : Int32).toInt ≤ 0 := by rw [c_79173]; exact ⟨by decide, by decide⟩
            obtain ⟨v_79175, v_79175_e⟩ : ∃ y : Int32, y = x_79160 + Int32.ofInt 1 := ⟨_, rfl⟩
            have h_v_79175 : 1 ≤ (v_79175 : Int32).toInt ∧ (v_79175 : Int32).toInt ≤ 3 := by rw [v_79175_e]; exact tr_add h_79166 (⟨by decide, by decide⟩ : 1 ≤ (Int32.ofInt 1 : Int32).toInt ∧ (Int32.ofInt 1 : Int32).toInt ≤ 1) (by decide) (by decide) (by decide) (by decide)
            have q_v_79175 : v_79175.toInt = x_79160.toInt + 1 := by rw [v_79175_e]; exact tr_addE h_79166 (⟨by decide, by decide⟩ : 1 ≤ (Int32.ofInt 1 : Int32).toInt ∧ (Int32.ofInt 1 : Int32).toInt ≤ 1) (by decide) (by decide)
            refine lv_iinc (v := v_79175) (lv' := [(5, .int v_79175), (4, .int x_79162), (3, .int v_79069), (0, .ref sv), (1, .int p0), (2, .ref vs)]) hx hb dX6_goodOf_80 hl (k := 0) rfl v_79175_e.symm (by decide) rfl (fun ls hl => ?_)
            refine lv_goto (tgt := 28) hx hb dX6_goodOf_83 (by decide) ?_
            exact ih_79163 v_79175 f_79171 x_79162 H _ ls (tr_w h_v_79175 (by decide) (by decide)) (by (first | (clear h_p0 h_n_nodes h_v_79070 h_79174; omega) | omega)) (hP.sub [0, 1, 2, 3, 4, 5, 6, 7, 8, 9] rfl) (hD.sub [0, 1, 2, 3, 4, 5, 6, 7, 8, 9] (by decide) rfl) hS (lv_sub hl [0, 1, 2, 3, 4, 5] rfl)
          · skip
            refine lv_aload_n hx hb dX6_goodOf_63 rfl (lv_at hl 3 rfl) ?_
            refine lv_aload_n hx hb dX6_goodOf_64 rfl (lv_at hl 5 rfl) ?_
            have hPc := hP.sub (ws' := [(wO6 sv n co sv_keep sv_scaled), (wO2 n n_nodes n_kind n_pay n_name n_ways n_held n_targets n_weights), (wI g n_kind 0 12 n_fkind), (wI g n_pay 0 12 n_fpay), (wI g n_ways 0 12 n_fways), (wI g n_held 0 12 n_fheld), (wI g n_targets 0 36 n_ftargets), (wO10 vs vs_part vsw), (wJ g vs_part 1 12 vsp), (wI g sv_keep 0 12 f_79171)]) [0, 1, 2, 3, 4, 5, 6, 7, 8, 9] rfl
            refine vp_callSi (va_Run.run (va_runV (As := [.ref vs]) (rest := []) ⟨hx, hb, hml, hown, hts⟩ (c_X6_bringsAll l D g sv vs n co sv_keep sv_scaled n_nodes n_kind n_pay n_name n_ways n_held n_targets n_weights n_fkind n_fpay n_fways n_fheld n_ftargets vs_part vsw vsp f_79171 (tr_w h_n_nodes (by decide) (by decide)) (tr_wa h_n_fkind (by decide) (by decide)) (tr_wa h_n_fways (by decide) (by decide)) (tr_wa h_n_fheld (by decide) (by decide)) (tr_wa h_n_ftargets (by decide) (by decide))) (cwV 1 hts (tz_gV qw_573 qw_574 qw_575 qw_538 qw_576) rfl rfl rfl (by decide +kernel) ⟨Nat.le_of_ble_eq_true rfl, Nat.le_of_ble_eq_true rfl⟩) ⟨tz_blS, va_recv hK hPc (ci := 6) (q0 := 0) rfl rfl, tz_preS hPc hK⟩ rfl rfl hl.1 rfl (lv_room (Nat.le_of_ble_eq_true rfl)) dX6_goodOf_65 ⟨Nat.le_of_ble_eq_true rfl, Nat.le_of_ble_eq_true rfl⟩)) (fun r_79176 hw => ?_)
            have hw_79177 : 0 ≤ (r_79176 : Int32).toInt ∧ (r_79176 : Int32).toInt ≤ 1 := hw
            refine lv_if_eq (tgt := 80) hx hb dX6_goodOf_68 (by decide) (fun c_79178 => ?_) (fun c_79178 => ?_)
            · skip
              have c_79178_i : (r_79176 : Int32).toInt = (0 : Int32).toInt := congrArg Int32.toInt c_79178
              have h_79179 : 0 ≤ (r_79176 : Int32).toInt ∧ (r_79176 : Int32).toInt ≤ 0 := nr_eq_l hw_79177 (⟨by decide, by decide⟩ : 0 ≤ (0 : Int32).toInt ∧ (0 : Int32).toInt ≤ 0) c_79178_i (by decide) (by decide)
              obtain ⟨v_79181, v_79181_e⟩ : ∃ y : Int32, y = x_79160 + Int32.ofInt 1 := ⟨_, rfl⟩
              have h_v_79181 : 1 ≤ (v_79181 : Int32).toInt ∧ (v_79181 : Int32).toInt ≤ 3 := by rw [v_79181_e]; exact tr_add h_79166 (⟨by decide, by decide⟩ : 1 ≤ (Int32.ofInt 1 : Int32).toInt ∧ (Int32.ofInt 1 : Int32).toInt ≤ 1) (by decide) (by decide) (by decide) (by decide)
              have q_v_79181 : v_79181.toInt = x_79160.toInt + 1 := by rw [v_79181_e]; exact tr_addE h_79166 (⟨by decide, by decide⟩ : 1 ≤ (Int32.ofInt 1 : Int32).toInt ∧ (Int32.ofInt 1 : Int32).toInt ≤ 1) (by decide) (by decide)
              refine lv_iinc (v := v_79181) (lv' := [(5, .int v_79181), (4, .int x_79162), (3, .int v_79069), (0, .ref sv), (1, .int p0), (2, .ref vs)]) hx hb dX6_goodOf_80 hl (k := 0) rfl v_79181_e.symm (by decide) rfl (fun ls hl => ?_)
              refine lv_goto (tgt := 28) hx hb dX6_goodOf_83 (by decide) ?_
              exact ih_79163 v_79181 f_79171 x_79162 H _ ls (tr_w h_v_79181 (by decide) (by decide)) (by (first | (clear h_p0 h_n_nodes h_v_79070 hw_79177 c_79178_i h_79179; omega) | omega)) (hP.sub [0, 1, 2, 3, 4, 5, 6, 7, 8, 9] rfl) (hD.sub [0, 1, 2, 3, 4, 5, 6, 7, 8, 9] (by decide) rfl) hS (lv_sub hl [0, 1, 2, 3, 4, 5] rfl)
            · skip
              have c_79178_i : ¬ (r_79176 : Int32).toInt = (0 : Int32).toInt := (fun q => c_79178 (Int32.toInt_inj.mp q))
              have h_79180 : 1 ≤ (r_79176 : Int32).toInt ∧ (r_79176 : Int32).toInt ≤ 1 := nr_ne_l hw_79177 (⟨by decide, by decide⟩ : 0 ≤ (0 : Int32).toInt ∧ (0 : Int32).toInt ≤ 0) c_79178_i (by decide) (by decide)
              refine lv_iload hx hb dX6_goodOf_71 (lv_at hl 1 rfl) ?_
              refine lv_iconst (v := 1) hx hb dX6_goodOf_73 (by decide) ?_
              refine lv_iload hx hb dX6_goodOf_74 (lv_at hl 0 rfl) ?_
              refine lv_ishl hx hb dX6_goodOf_76 ?_
              refine lv_topi (fun v_79182 v_79182_e => ?_)
              refine lv_ior hx hb dX6_goodOf_77 ?_
              refine lv_topi (fun v_79183 v_79183_e => ?_)
              refine lv_istore (lv' := [(4, .int v_79183), (5, .int x_79160), (3, .int v_79069), (0, .ref sv), (1, .int p0), (2, .ref vs)]) hx hb dX6_goodOf_78 hl (by decide) rfl (fun ls hl => ?_)
              obtain ⟨v_79184, v_79184_e⟩ : ∃ y : Int32, y = x_79160 + Int32.ofInt 1 := ⟨_, rfl⟩
              have h_v_79184 : 1 ≤ (v_79184 : Int32).toInt ∧ (v_79184 : Int32).toInt ≤ 3 := by rw [v_79184_e]; exact tr_add h_79166 (⟨by decide, by decide⟩ : 1 ≤ (Int32.ofInt 1 : Int32).toInt ∧ (Int32.ofInt 1 : Int32).toInt ≤ 1) (by decide) (by decide) (by decide) (by decide)
              have q_v_79184 : v_79184.toInt = x_79160.toInt + 1 := by rw [v_79184_e]; exact tr_addE h_79166 (⟨by decide, by decide⟩ : 1 ≤ (Int32.ofInt 1 : Int32).toInt ∧ (Int32.ofInt 1 : Int32).toInt ≤ 1) (by decide) (by decide)
              refine lv_iinc (v := v_79184) (lv' := [(5, .int v_79184), (4, .int v_79183), (3, .int v_79069), (0, .ref sv), (1, .int p0), (2, .ref vs)]) hx hb dX6_goodOf_80 hl (k := 1) rfl v_79184_e.symm (by decide) rfl (fun ls hl => ?_)
              refine lv_goto (tgt := 28) hx hb dX6_goodOf_83 (by decide) ?_
              exact ih_79163 v_79184 f_79171 v_79183 H _ ls (tr_w h_v_79184 (by decide) (by decide)) (by (first | (clear h_p0 h_n_nodes h_v_79070 hw_79177 c_79178_i h_79180; omega) | omega)) (hP.sub [0, 1, 2, 3, 4, 5, 6, 7, 8, 9] rfl) (hD.sub [0, 1, 2, 3, 4, 5, 6, 7, 8, 9] (by decide) rfl) hS (lv_sub hl [0, 1, 2, 3, 4, 5] rfl)
    exact lp_79163 4 0 kpf 0 s.heap _ ls (⟨by decide, by decide⟩ : 0 ≤ (0 : Int32).toInt ∧ (0 : Int32).toInt ≤ 3) (by decide) (hP.sub [0, 1, 2, 3, 4, 5, 6, 7, 8, 9] rfl) (hD.sub [0, 1, 2, 3, 4, 5, 6, 7, 8, 9] (by decide) rfl) hS (lv_sub hl [0, 1, 2, 3, 4, 5] rfl)
  · skip
    have c_79071_i : (v_79070 : Int32).toInt = (2 : Int32).toInt := congrArg Int32.toInt c_79071
    have h_79072 : 2 ≤ (v_79070 : Int32).toInt ∧ (v_79070 : Int32).toInt ≤ 2 := nr_eq_l h_v_79070 (⟨by decide, by decide⟩ : 2 ≤ (2 : Int32).toInt ∧ (2 : Int32).toInt ≤ 2) c_79071_i (by decide) (by decide)
    refine lv_iload_n hx hb dX6_goodOf_20 rfl (lv_at hl 0 rfl) ?_
    have hP9 := hP.sub (ws' := [(wO6 sv n co sv_keep sv_scaled), (wO2 n n_nodes n_kind n_pay n_name n_ways n_held n_targets n_weights), (wI g n_kind 0 12 n_fkind), (wI g n_pay 0 12 n_fpay), (wI g n_ways 0 12 n_fways), (wI g n_held 0 12 n_fheld), (wI g n_targets 0 36 n_ftargets), (wO10 vs vs_part vsw), (wJ g vs_part 1 12 vsp), (wI g sv_keep 0 12 kpf)]) [0, 1, 2, 3, 4, 5, 6, 7, 8, 9] rfl
    have hD9 := hD.sub (ws' := [(wO6 sv n co sv_keep sv_scaled), (wO2 n n_nodes n_kind n_pay n_name n_ways n_held n_targets n_weights), (wI g n_kind 0 12 n_fkind), (wI g n_pay 0 12 n_fpay), (wI g n_ways 0 12 n_fways), (wI g n_held 0 12 n_fheld), (wI g n_targets 0 36 n_ftargets), (wO10 vs vs_part vsw), (wJ g vs_part 1 12 vsp), (wI g sv_keep 0 12 kpf)]) [0, 1, 2, 3, 4, 5, 6, 7, 8, 9] (by decide) rfl
    exact W.iret (v := v_79069) hx hb hr (fun t ht hW => ⟨⟨v_79069, (), rfl, trivial, kpf, by rw [ht]; exact hP9, hD9⟩, hS.F ht⟩) hS.2.2 dX6_goodOf_21
set_option maxHeartbeats 4000000 in
set_option maxRecDepth 100000 in
theorem c_X6_goodWays (l : Launch) (D : va_G) (g : Nat → ClassId) (sz : Nat) (sv : Nat) (p0 : Int32) (vs : Nat) (n : Nat) (co : Nat) (sv_keep : Nat) (sv_scaled : Nat) (n_nodes : Int32) (n_kind : Nat) (n_pay : Nat) (n_name : Nat) (n_ways : Nat) (n_held : Nat) (n_targets : Nat) (n_weights : Nat) (n_fkind : Nat → Int32) (n_fpay : Nat → Int32) (n_fways : Nat → Int32) (n_fheld : Nat → Int32) (n_ftargets : Nat → Int32) (vs_part : Nat) (vsw : Int64) (vsp : Nat → Int64) (kpf : Nat → Int32) (h_p0 : 0 ≤ (p0 : Int32).toInt ∧ (p0 : Int32).toInt ≤ 11) (h_n_nodes : 0 ≤ (n_nodes : Int32).toInt ∧ (n_nodes : Int32).toInt ≤ 12) (h_n_fkind : ∀ j : Nat, 0 ≤ (n_fkind j).toInt ∧ (n_fkind j).toInt ≤ 3) (h_n_fways : ∀ j : Nat, 0 ≤ (n_fways j).toInt ∧ (n_fways j).toInt ≤ 3) (h_n_fheld : ∀ j : Nat, (-1) ≤ (n_fheld j).toInt ∧ (n_fheld j).toInt ≤ 2) (h_n_ftargets : ∀ j : Nat, 0 ≤ (n_ftargets j).toInt ∧ (n_ftargets j).toInt ≤ 11) : Met l yX6_goodWays (.code yX6_goodWays cX6_goodWays 3 (some .int) :: wsL_law) ({ frames := 4, cells := 0, slots := 0, locals := 100 }) (va_Pc [.ref sv, .int p0, .ref vs] (fun U => U.heap.size = sz ∧ va_P D vwCl [(wO6 sv n co sv_keep sv_scaled), (wO2 n n_nodes n_kind n_pay n_name n_ways n_held n_targets n_weights), (wI g n_kind 0 12 n_fkind), (wI g n_pay 0 12 n_fpay), (wI g n_ways 0 12 n_fways), (wI g n_held 0 12 n_fheld), (wI g n_targets 0 36 n_ftargets), (wO10 vs vs_part vsw), (wJ g vs_part 1 12 vsp), (wI g sv_keep 0 12 kpf)] U.heap ∧ va_K D vwCl (TY g) U ∧ va_D (fun _ => True) [(wO6 sv n co sv_keep sv_scaled), (wO2 n n_nodes n_kind n_pay n_name n_ways n_held n_targets n_weights), (wI g n_kind 0 12 n_fkind), (wI g n_pay 0 12 n_fpay), (wI g n_ways 0 12 n_fways), (wI g n_held 0 12 n_fheld), (wI g n_targets 0 36 n_ftargets), (wO10 vs vs_part vsw), (wJ g vs_part 1 12 vsp), (wI g sv_keep 0 12 kpf)])) (va_Qi (fun r (_ : Unit) => True) (fun _ t => ∃ okp : Nat → Int32, va_P D vwCl [(wO6 sv n co sv_keep sv_scaled), (wO2 n n_nodes n_kind n_pay n_name n_ways n_held n_targets n_weights), (wI g n_kind 0 12 n_fkind), (wI g n_pay 0 12 n_fpay), (wI g n_ways 0 12 n_fways), (wI g n_held 0 12 n_fheld), (wI g n_targets 0 36 n_ftargets), (wO10 vs vs_part vsw), (wJ g vs_part 1 12 vsp), (wI g sv_keep 0 12 okp)] t.heap ∧ va_D (va_A [(wO6 sv n co sv_keep sv_scaled), (wO2 n n_nodes n_kind n_pay n_name n_ways n_held n_targets n_weights), (wI g n_kind 0 12 n_fkind), (wI g n_pay 0 12 n_fpay), (wI g n_ways 0 12 n_fways), (wI g n_held 0 12 n_fheld), (wI g n_targets 0 36 n_ftargets), (wO10 vs vs_part vsw), (wJ g vs_part 1 12 vsp), (wI g sv_keep 0 12 kpf)] sz) [(wO6 sv n co sv_keep sv_scaled), (wO2 n n_nodes n_kind n_pay n_name n_ways n_held n_targets n_weights), (wI g n_kind 0 12 n_fkind), (wI g n_pay 0 12 n_fpay), (wI g n_ways 0 12 n_fways), (wI g n_held 0 12 n_fheld), (wI g n_targets 0 36 n_ftargets), (wO10 vs vs_part vsw), (wJ g vs_part 1 12 vsp), (wI g sv_keep 0 12 okp)]) (va_A [(wO6 sv n co sv_keep sv_scaled), (wO2 n n_nodes n_kind n_pay n_name n_ways n_held n_targets n_weights), (wI g n_kind 0 12 n_fkind), (wI g n_pay 0 12 n_fpay), (wI g n_ways 0 12 n_fways), (wI g n_held 0 12 n_fheld), (wI g n_targets 0 36 n_ftargets), (wO10 vs vs_part vsw), (wJ g vs_part 1 12 vsp), (wI g sv_keep 0 12 kpf)] sz)) 0 0 (va_A [(wO6 sv n co sv_keep sv_scaled), (wO2 n n_nodes n_kind n_pay n_name n_ways n_held n_targets n_weights), (wI g n_kind 0 12 n_fkind), (wI g n_pay 0 12 n_fpay), (wI g n_ways 0 12 n_fways), (wI g n_held 0 12 n_fheld), (wI g n_targets 0 36 n_ftargets), (wO10 vs vs_part vsw), (wJ g vs_part 1 12 vsp), (wI g sv_keep 0 12 kpf)] sz) := by
  refine Met.ofW (cc := cX6_goodWays) (maxL := 3) (ret := (some .int)) (by decide) rfl ?_
  intro p e s m args below meth c s₁ B hml hv
  obtain ⟨ha, hsz, hP, hK, hD0⟩ := hv
  have hx := B.exec
  have hb := B.bytes
  have hr := B.returns
  have hts0 := atoms_spec (ws := (.code yX6_goodWays cX6_goodWays 3 (some .int) :: wsL_law)) B.pre
  have hts : ∀ w ∈ wsL_law, w.before args s = true := fun w h => hts0 w (List.mem_cons_of_mem _ h)
  have hown : s.vm.findClass RX6 = some m.cls := findClass_of_methodNamed B.named
  have hlocks := B.notSynchronized
  subst hsz
  have hD := hD0.self (sz := s.heap.size)
  generalize hAe : va_A [(wO6 sv n co sv_keep sv_scaled), (wO2 n n_nodes n_kind n_pay n_name n_ways n_held n_targets n_weights), (wI g n_kind 0 12 n_fkind), (wI g n_pay 0 12 n_fpay), (wI g n_ways 0 12 n_fways), (wI g n_held 0 12 n_fheld), (wI g n_targets 0 36 n_ftargets), (wO10 vs vs_part vsw), (wJ g vs_part 1 12 vsp), (wI g sv_keep 0 12 kpf)] s.heap.size = A at hD ⊢
  have hA : ∀ q : Nat, s.heap.size ≤ q → A q := fun q h => by rw [← hAe]; exact Or.inr h
  have hS : va_S A s.heap s.heap [] := va_S.rf
  have hP : va_P D vwCl [(wO6 sv n co sv_keep sv_scaled), (wO2 n n_nodes n_kind n_pay n_name n_ways n_held n_targets n_weights), (wI g n_kind 0 12 n_fkind), (wI g n_pay 0 12 n_fpay), (wI g n_ways 0 12 n_fways), (wI g n_held 0 12 n_fheld), (wI g n_targets 0 36 n_ftargets), (wO10 vs vs_part vsw), (wJ g vs_part 1 12 vsp), (wI g sv_keep 0 12 kpf)] s.heap := hP
  refine W.eq (g2 := entryFrame m ([.ref sv, .int p0, .ref vs] : List Value).toArray 3) (by rw [ha]) ?_
  have hl := lv_entry ([.ref sv, .int p0, .ref vs]) (n := 3) (Nat.le_of_ble_eq_true rfl)
  rw [lg_entry_eq]
  generalize (lg_sl ([.ref sv, .int p0, .ref vs]) ++ List.replicate (3 - (lg_sl ([.ref sv, .int p0, .ref vs])).length) Slot.unset).toArray = ls at hl ⊢
  have hl : lv_has ls 3 [(0, .ref sv), (1, .int p0), (2, .ref vs)] := hl
  refine lv_aload_n hx hb dX6_goodWays_0 rfl (lv_at hl 0 rfl) ?_
  refine lv_aload_n hx hb dX6_goodWays_1 rfl (lv_at hl 2 rfl) ?_
  have hPc := hP.sub (ws' := [(wO6 sv n co sv_keep sv_scaled), (wO2 n n_nodes n_kind n_pay n_name n_ways n_held n_targets n_weights), (wI g n_kind 0 12 n_fkind), (wI g n_pay 0 12 n_fpay), (wI g n_ways 0 12 n_fways), (wI g n_held 0 12 n_fheld), (wI g n_targets 0 36 n_ftargets), (wO10 vs vs_part vsw), (wJ g vs_part 1 12 vsp), (wI g sv_keep 0 12 kpf)]) [0, 1, 2, 3, 4, 5, 6, 7, 8, 9] rfl
  have hDc := hD.sub (ws' := [(wO6 sv n co sv_keep sv_scaled), (wO2 n n_nodes n_kind n_pay n_name n_ways n_held n_targets n_weights), (wI g n_kind 0 12 n_fkind), (wI g n_pay 0 12 n_fpay), (wI g n_ways 0 12 n_fways), (wI g n_held 0 12 n_fheld), (wI g n_targets 0 36 n_ftargets), (wO10 vs vs_part vsw), (wJ g vs_part 1 12 vsp), (wI g sv_keep 0 12 kpf)]) [0, 1, 2, 3, 4, 5, 6, 7, 8, 9] (by decide) rfl
  have hFc := va_free (wc := [(wO6 sv n co sv_keep sv_scaled), (wO2 n n_nodes n_kind n_pay n_name n_ways n_held n_targets n_weights), (wI g n_kind 0 12 n_fkind), (wI g n_pay 0 12 n_fpay), (wI g n_ways 0 12 n_fways), (wI g n_held 0 12 n_fheld), (wI g n_targets 0 36 n_ftargets), (wO10 vs vs_part vsw), (wJ g vs_part 1 12 vsp), (wI g sv_keep 0 12 kpf)]) hD hS hA [0, 1, 2, 3, 4, 5, 6, 7, 8, 9] rfl
  refine va_callv (va_runV (As := [.ref vs]) (rest := []) ⟨hx, hb, hml, hown, hts⟩ (c_X6_keepEven l D g s.heap.size sv vs n co sv_keep sv_scaled n_nodes n_kind n_pay n_name n_ways n_held n_targets n_weights n_fkind n_fpay n_fways n_fheld n_ftargets vs_part vsw vsp kpf (tr_w h_n_nodes (by decide) (by decide)) (tr_wa h_n_fkind (by decide) (by decide)) (tr_wa h_n_fways (by decide) (by decide)) (tr_wa h_n_fheld (by decide) (by decide)) (tr_wa h_n_ftargets (by decide) (by decide))) (cwV 1 hts (tz_gV qw_577 qw_578 qw_579 qw_538 qw_580) rfl rfl rfl (by decide +kernel) ⟨Nat.le_of_ble_eq_true rfl, Nat.le_of_ble_eq_true rfl⟩) ⟨tz_blQ, va_recv hK hPc (ci := 6) (q0 := 0) rfl rfl, tz_preQ hPc hK hDc⟩ rfl rfl hl.1 rfl (lv_room (Nat.le_of_ble_eq_true rfl)) dX6_goodWays_2 ⟨Nat.le_of_ble_eq_true rfl, Nat.le_of_ble_eq_true rfl⟩) hS (fun q _ h => hFc q h) hFc (fun u t H1 locs ht hvm hw hB hz1 hk1 hS => ?_)
  obtain ⟨okp_79186, hP1, hD1⟩ := hB
  rw [ht] at hP1
  obtain ⟨hP, hD⟩ := va_join (wr := []) (w1 := [(wO6 sv n co sv_keep sv_scaled), (wO2 n n_nodes n_kind n_pay n_name n_ways n_held n_targets n_weights), (wI g n_kind 0 12 n_fkind), (wI g n_pay 0 12 n_fpay), (wI g n_ways 0 12 n_fways), (wI g n_held 0 12 n_fheld), (wI g n_targets 0 36 n_ftargets), (wO10 vs vs_part vsw), (wJ g vs_part 1 12 vsp), (wI g sv_keep 0 12 okp_79186)]) hP hD [0, 1, 2, 3, 4, 5, 6, 7, 8, 9] [] rfl rfl (by decide) (by decide) hk1 hFc hP1 hD1
  generalize H1 = H at hP hS ⊢
  have hP : va_P D vwCl [(wO6 sv n co sv_keep sv_scaled), (wO2 n n_nodes n_kind n_pay n_name n_ways n_held n_targets n_weights), (wI g n_kind 0 12 n_fkind), (wI g n_pay 0 12 n_fpay), (wI g n_ways 0 12 n_fways), (wI g n_held 0 12 n_fheld), (wI g n_targets 0 36 n_ftargets), (wO10 vs vs_part vsw), (wJ g vs_part 1 12 vsp), (wI g sv_keep 0 12 okp_79186)] H := hP
  have hD : va_D A [(wO6 sv n co sv_keep sv_scaled), (wO2 n n_nodes n_kind n_pay n_name n_ways n_held n_targets n_weights), (wI g n_kind 0 12 n_fkind), (wI g n_pay 0 12 n_fpay), (wI g n_ways 0 12 n_fways), (wI g n_held 0 12 n_fheld), (wI g n_targets 0 36 n_ftargets), (wO10 vs vs_part vsw), (wJ g vs_part 1 12 vsp), (wI g sv_keep 0 12 okp_79186)] := hD
  refine lv_aload_n hx hb dX6_goodWays_5 rfl (lv_at hl 0 rfl) ?_
  refine lv_iload_n hx hb dX6_goodWays_6 rfl (lv_at hl 1 rfl) ?_
  refine lv_aload_n hx hb dX6_goodWays_7 rfl (lv_at hl 2 rfl) ?_
  have hPc := hP.sub (ws' := [(wO6 sv n co sv_keep sv_scaled), (wO2 n n_nodes n_kind n_pay n_name n_ways n_held n_targets n_weights), (wI g n_kind 0 12 n_fkind), (wI g n_pay 0 12 n_fpay), (wI g n_ways 0 12 n_fways), (wI g n_held 0 12 n_fheld), (wI g n_targets 0 36 n_ftargets), (wO10 vs vs_part vsw), (wJ g vs_part 1 12 vsp), (wI g sv_keep 0 12 okp_79186)]) [0, 1, 2, 3, 4, 5, 6, 7, 8, 9] rfl
  have hDc := hD.sub (ws' := [(wO6 sv n co sv_keep sv_scaled), (wO2 n n_nodes n_kind n_pay n_name n_ways n_held n_targets n_weights), (wI g n_kind 0 12 n_fkind), (wI g n_pay 0 12 n_fpay), (wI g n_ways 0 12 n_fways), (wI g n_held 0 12 n_fheld), (wI g n_targets 0 36 n_ftargets), (wO10 vs vs_part vsw), (wJ g vs_part 1 12 vsp), (wI g sv_keep 0 12 okp_79186)]) [0, 1, 2, 3, 4, 5, 6, 7, 8, 9] (by decide) rfl
  have hFc := va_free (wc := [(wO6 sv n co sv_keep sv_scaled), (wO2 n n_nodes n_kind n_pay n_name n_ways n_held n_targets n_weights), (wI g n_kind 0 12 n_fkind), (wI g n_pay 0 12 n_fpay), (wI g n_ways 0 12 n_fways), (wI g n_held 0 12 n_fheld), (wI g n_targets 0 36 n_ftargets), (wO10 vs vs_part vsw), (wJ g vs_part 1 12 vsp), (wI g sv_keep 0 12 okp_79186)]) hD hS hA [0, 1, 2, 3, 4, 5, 6, 7, 8, 9] rfl
  refine va_calli (va_runV (As := [.int p0, .ref vs]) (rest := []) ⟨hx, hb, hml, hown, hts⟩ (c_X6_goodOf l D g H.size sv p0 vs n co sv_keep sv_scaled n_nodes n_kind n_pay n_name n_ways n_held n_targets n_weights n_fkind n_fpay n_fways n_fheld n_ftargets vs_part vsw vsp okp_79186 (tr_w h_p0 (by decide) (by decide)) (tr_w h_n_nodes (by decide) (by decide)) (tr_wa h_n_fkind (by decide) (by decide)) (tr_wa h_n_fways (by decide) (by decide)) (tr_wa h_n_fheld (by decide) (by decide)) (tr_wa h_n_ftargets (by decide) (by decide))) (cwV 2 hts (tz_gV qw_581 qw_582 qw_583 qw_538 qw_584) rfl rfl rfl (by decide +kernel) ⟨Nat.le_of_ble_eq_true rfl, Nat.le_of_ble_eq_true rfl⟩) ⟨tz_blQ, va_recv hK hPc (ci := 6) (q0 := 0) rfl rfl, tz_preQ hPc hK hDc⟩ rfl rfl hl.1 rfl (lv_room (Nat.le_of_ble_eq_true rfl)) dX6_goodWays_8 ⟨Nat.le_of_ble_eq_true rfl, Nat.le_of_ble_eq_true rfl⟩) hS (fun q _ h => hFc q h) hFc (fun r_79187 u t H1 locs ht hvm hw hB hz1 hk1 hS => ?_)
  obtain ⟨okp_79188, hP1, hD1⟩ := hB
  rw [ht] at hP1
  obtain ⟨hP, hD⟩ := va_join (wr := []) (w1 := [(wO6 sv n co sv_keep sv_scaled), (wO2 n n_nodes n_kind n_pay n_name n_ways n_held n_targets n_weights), (wI g n_kind 0 12 n_fkind), (wI g n_pay 0 12 n_fpay), (wI g n_ways 0 12 n_fways), (wI g n_held 0 12 n_fheld), (wI g n_targets 0 36 n_ftargets), (wO10 vs vs_part vsw), (wJ g vs_part 1 12 vsp), (wI g sv_keep 0 12 okp_79188)]) hP hD [0, 1, 2, 3, 4, 5, 6, 7, 8, 9] [] rfl rfl (by decide) (by decide) hk1 hFc hP1 hD1
  generalize H1 = H at hP hS ⊢
  have hP : va_P D vwCl [(wO6 sv n co sv_keep sv_scaled), (wO2 n n_nodes n_kind n_pay n_name n_ways n_held n_targets n_weights), (wI g n_kind 0 12 n_fkind), (wI g n_pay 0 12 n_fpay), (wI g n_ways 0 12 n_fways), (wI g n_held 0 12 n_fheld), (wI g n_targets 0 36 n_ftargets), (wO10 vs vs_part vsw), (wJ g vs_part 1 12 vsp), (wI g sv_keep 0 12 okp_79188)] H := hP
  have hD : va_D A [(wO6 sv n co sv_keep sv_scaled), (wO2 n n_nodes n_kind n_pay n_name n_ways n_held n_targets n_weights), (wI g n_kind 0 12 n_fkind), (wI g n_pay 0 12 n_fpay), (wI g n_ways 0 12 n_fways), (wI g n_held 0 12 n_fheld), (wI g n_targets 0 36 n_ftargets), (wO10 vs vs_part vsw), (wJ g vs_part 1 12 vsp), (wI g sv_keep 0 12 okp_79188)] := hD
  have hP9 := hP.sub (ws' := [(wO6 sv n co sv_keep sv_scaled), (wO2 n n_nodes n_kind n_pay n_name n_ways n_held n_targets n_weights), (wI g n_kind 0 12 n_fkind), (wI g n_pay 0 12 n_fpay), (wI g n_ways 0 12 n_fways), (wI g n_held 0 12 n_fheld), (wI g n_targets 0 36 n_ftargets), (wO10 vs vs_part vsw), (wJ g vs_part 1 12 vsp), (wI g sv_keep 0 12 okp_79188)]) [0, 1, 2, 3, 4, 5, 6, 7, 8, 9] rfl
  have hD9 := hD.sub (ws' := [(wO6 sv n co sv_keep sv_scaled), (wO2 n n_nodes n_kind n_pay n_name n_ways n_held n_targets n_weights), (wI g n_kind 0 12 n_fkind), (wI g n_pay 0 12 n_fpay), (wI g n_ways 0 12 n_fways), (wI g n_held 0 12 n_fheld), (wI g n_targets 0 36 n_ftargets), (wO10 vs vs_part vsw), (wJ g vs_part 1 12 vsp), (wI g sv_keep 0 12 okp_79188)]) [0, 1, 2, 3, 4, 5, 6, 7, 8, 9] (by decide) rfl
  exact W.iret (v := r_79187) hx hb hr (fun t ht hW => ⟨⟨r_79187, (), rfl, trivial, okp_79188, by rw [ht]; exact hP9, hD9⟩, hS.F ht⟩) hS.2.2 dX6_goodWays_11
