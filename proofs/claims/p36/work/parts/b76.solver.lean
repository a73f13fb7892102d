theorem qw_548 : Cond.fieldLink RX6 19 "ChanceRings$Solver" "net" "LChanceRings$Net;" ∈ wsL_law := tseg_2 (by decide +kernel) (List.mem_of_getElem? (i := 61) rfl)
theorem qw_549 : Cond.fieldLink RX6 32 "ChanceRings$Net" "nodes" "I" ∈ wsL_law := tseg_1 (by decide +kernel) (List.mem_of_getElem? (i := 55) rfl)
theorem qw_550 : Cond.fieldLink RX6 38 "ChanceRings$Net" "held" "[I" ∈ wsL_law := tseg_1 (by decide +kernel) (List.mem_of_getElem? (i := 86) rfl)
theorem qw_551 : Cond.fieldLink RX6 61 "ChanceRings$Net" "kind" "[I" ∈ wsL_law := tseg_1 (by decide +kernel) (List.mem_of_getElem? (i := 68) rfl)
theorem qw_552 : Cond.fieldLink RX6 68 "ChanceRings$Net" "ways" "[I" ∈ wsL_law := tseg_1 (by decide +kernel) (List.mem_of_getElem? (i := 83) rfl)
theorem qw_553 : Cond.fieldLink RX6 71 "ChanceRings$Values" "part" "[J" ∈ wsL_law := tseg_2 (by decide +kernel) (List.mem_of_getElem? (i := 90) rfl)
theorem qw_554 : Cond.methodLink RX6 76 yX2_target ∈ wsL_law := tseg_3 (by decide +kernel) (List.mem_of_getElem? (i := 171) rfl)
theorem qw_555 : Cond.methodLink RX6 64 yX6_betterWay ∈ wsL_law := tseg_3 (by decide +kernel) (List.mem_of_getElem? (i := 167) rfl)
theorem qw_556 : Cond.instanceMethod yX6_betterWay ∈ wsL_law := tseg_3 (by decide +kernel) (List.mem_of_getElem? (i := 169) rfl)
theorem qw_557 : Cond.selects RX6 yX6_betterWay yX6_betterWay ∈ wsL_law := List.mem_filter.mpr ⟨List.mem_append_left _ (List.mem_of_getElem? (i := 23) rfl), by decide +kernel⟩
theorem qw_558 : Cond.initialized RX6 ∈ wsL_law := tseg_1 (by decide +kernel) (List.mem_of_getElem? (i := 12) rfl)
theorem qw_559 : Cond.code yX6_betterWay cX6_betterWay 9 (some .int) ∈ wsL_law := tseg_3 (by decide +kernel) (List.mem_of_getElem? (i := 170) rfl)
theorem qw_560 : Cond.methodLink RX6 49 yX6_turnOpen ∈ wsL_law := tseg_3 (by decide +kernel) (List.mem_of_getElem? (i := 163) rfl)
theorem qw_561 : Cond.instanceMethod yX6_turnOpen ∈ wsL_law := tseg_3 (by decide +kernel) (List.mem_of_getElem? (i := 165) rfl)
theorem qw_562 : Cond.selects RX6 yX6_turnOpen yX6_turnOpen ∈ wsL_law := List.mem_filter.mpr ⟨List.mem_append_left _ (List.mem_of_getElem? (i := 22) rfl), by decide +kernel⟩
theorem qw_563 : Cond.code yX6_turnOpen cX6_turnOpen 8 (some .int) ∈ wsL_law := tseg_3 (by decide +kernel) (List.mem_of_getElem? (i := 166) rfl)
theorem qw_564 : Cond.methodLink RX6 80 yX2_payingEnds ∈ wsL_law := tseg_3 (by decide +kernel) (List.mem_of_getElem? (i := 105) rfl)
theorem qw_565 : Cond.fieldLink RX6 28 "ChanceRings$Solver" "course" "LChanceRings$Course;" ∈ wsL_law := tseg_2 (by decide +kernel) (List.mem_of_getElem? (i := 62) rfl)
theorem qw_566 : Cond.methodLink RX6 88 yX0_follow ∈ wsL_law := tseg_3 (by decide +kernel) (List.mem_of_getElem? (i := 121) rfl)
theorem qw_567 : Cond.instanceMethod yX0_follow ∈ wsL_law := tseg_3 (by decide +kernel) (List.mem_of_getElem? (i := 122) rfl)
theorem qw_568 : Cond.selects RX0 yX0_follow yX0_follow ∈ wsL_law := tseg_3 (by decide +kernel) (List.mem_of_getElem? (i := 123) rfl)
theorem qw_569 : Cond.code yX0_follow cX0_follow 5 (some .int) ∈ wsL_law := tseg_3 (by decide +kernel) (List.mem_of_getElem? (i := 124) rfl)
theorem qw_570 : Cond.methodLink RX6 84 yX2_nextNodes ∈ wsL_law := tseg_3 (by decide +kernel) (List.mem_of_getElem? (i := 109) rfl)
theorem qw_571 : Cond.methodLink RX6 41 yX6_unavoidable ∈ wsL_law := tseg_3 (by decide +kernel) (List.mem_of_getElem? (i := 101) rfl)
theorem qw_572 : Cond.instanceMethod yX6_unavoidable ∈ wsL_law := tseg_3 (by decide +kernel) (List.mem_of_getElem? (i := 103) rfl)
theorem qw_573 : Cond.selects RX6 yX6_unavoidable yX6_unavoidable ∈ wsL_law := List.mem_filter.mpr ⟨List.mem_append_left _ (List.mem_of_getElem? (i := 15) rfl), by decide +kernel⟩
theorem qw_574 : Cond.code yX6_unavoidable cX6_unavoidable 8 (some .int) ∈ wsL_law := tseg_3 (by decide +kernel) (List.mem_of_getElem? (i := 104) rfl)
theorem qw_575 : Cond.methodLink RX6 45 yX0_expectPay ∈ wsL_law := tseg_3 (by decide +kernel) (List.mem_of_getElem? (i := 130) rfl)
theorem qw_576 : Cond.instanceMethod yX0_expectPay ∈ wsL_law := tseg_3 (by decide +kernel) (List.mem_of_getElem? (i := 131) rfl)
theorem qw_577 : Cond.selects RX0 yX0_expectPay yX0_expectPay ∈ wsL_law := tseg_3 (by decide +kernel) (List.mem_of_getElem? (i := 132) rfl)
theorem qw_578 : Cond.code yX0_expectPay cX0_expectPay 8 none ∈ wsL_law := tseg_3 (by decide +kernel) (List.mem_of_getElem? (i := 133) rfl)
theorem qw_579 : Cond.methodLink RX6 53 yX6_findLeft ∈ wsL_law := tseg_3 (by decide +kernel) (List.mem_of_getElem? (i := 97) rfl)
theorem qw_580 : Cond.instanceMethod yX6_findLeft ∈ wsL_law := tseg_3 (by decide +kernel) (List.mem_of_getElem? (i := 98) rfl)
theorem qw_581 : Cond.selects RX6 yX6_findLeft yX6_findLeft ∈ wsL_law := tseg_3 (by decide +kernel) (List.mem_of_getElem? (i := 99) rfl)
theorem qw_582 : Cond.code yX6_findLeft cX6_findLeft 8 none ∈ wsL_law := tseg_3 (by decide +kernel) (List.mem_of_getElem? (i := 100) rfl)
theorem qw_583 : Cond.methodLink RX6 57 yX6_turn ∈ wsL_law := tseg_3 (by decide +kernel) (List.mem_of_getElem? (i := 172) rfl)
theorem qw_584 : Cond.instanceMethod yX6_turn ∈ wsL_law := tseg_3 (by decide +kernel) (List.mem_of_getElem? (i := 173) rfl)
theorem qw_585 : Cond.selects RX6 yX6_turn yX6_turn ∈ wsL_law := tseg_3 (by decide +kernel) (List.mem_of_getElem? (i := 174) rfl)
theorem qw_586 : Cond.code yX6_turn cX6_turn 4 (some .int) ∈ wsL_law := tseg_3 (by decide +kernel) (List.mem_of_getElem? (i := 175) rfl)
theorem qw_587 : Cond.fieldLink RX6 9 "ChanceRings$Solver" "keep" "[I" ∈ wsL_law := tseg_2 (by decide +kernel) (List.mem_of_getElem? (i := 64) rfl)
theorem qw_588 : Cond.methodLink RX6 128 yX2_canTake ∈ wsL_law := tseg_3 (by decide +kernel) (List.mem_of_getElem? (i := 184) rfl)
theorem qw_589 : Cond.methodLink RX6 136 yX6_isBrought ∈ wsL_law := tseg_3 (by decide +kernel) (List.mem_of_getElem? (i := 196) rfl)
theorem qw_590 : Cond.instanceMethod yX6_isBrought ∈ wsL_law := tseg_3 (by decide +kernel) (List.mem_of_getElem? (i := 198) rfl)
theorem qw_591 : Cond.selects RX6 yX6_isBrought yX6_isBrought ∈ wsL_law := List.mem_filter.mpr ⟨List.mem_append_left _ (List.mem_of_getElem? (i := 27) rfl), by decide +kernel⟩
theorem qw_592 : Cond.code yX6_isBrought cX6_isBrought 9 (some .boolean) ∈ wsL_law := tseg_3 (by decide +kernel) (List.mem_of_getElem? (i := 199) rfl)
theorem qw_593 : Cond.methodLink RX6 132 yX6_bringsAll ∈ wsL_law := tseg_3 (by decide +kernel) (List.mem_of_getElem? (i := 192) rfl)
theorem qw_594 : Cond.instanceMethod yX6_bringsAll ∈ wsL_law := tseg_3 (by decide +kernel) (List.mem_of_getElem? (i := 194) rfl)
theorem qw_595 : Cond.selects RX6 yX6_bringsAll yX6_bringsAll ∈ wsL_law := List.mem_filter.mpr ⟨List.mem_append_left _ (List.mem_of_getElem? (i := 26) rfl), by decide +kernel⟩
theorem qw_596 : Cond.code yX6_bringsAll cX6_bringsAll 6 (some .boolean) ∈ wsL_law := tseg_3 (by decide +kernel) (List.mem_of_getElem? (i := 195) rfl)
theorem qw_597 : Cond.methodLink RX6 117 yX6_keepEven ∈ wsL_law := tseg_3 (by decide +kernel) (List.mem_of_getElem? (i := 180) rfl)
theorem qw_598 : Cond.instanceMethod yX6_keepEven ∈ wsL_law := tseg_3 (by decide +kernel) (List.mem_of_getElem? (i := 182) rfl)
theorem qw_599 : Cond.selects RX6 yX6_keepEven yX6_keepEven ∈ wsL_law := List.mem_filter.mpr ⟨List.mem_append_left _ (List.mem_of_getElem? (i := 24) rfl), by decide +kernel⟩
theorem qw_600 : Cond.code yX6_keepEven cX6_keepEven 4 none ∈ wsL_law := tseg_3 (by decide +kernel) (List.mem_of_getElem? (i := 183) rfl)
theorem qw_601 : Cond.methodLink RX6 124 yX6_goodOf ∈ wsL_law := tseg_3 (by decide +kernel) (List.mem_of_getElem? (i := 188) rfl)
theorem qw_602 : Cond.instanceMethod yX6_goodOf ∈ wsL_law := tseg_3 (by decide +kernel) (List.mem_of_getElem? (i := 190) rfl)
theorem qw_603 : Cond.selects RX6 yX6_goodOf yX6_goodOf ∈ wsL_law := List.mem_filter.mpr ⟨List.mem_append_left _ (List.mem_of_getElem? (i := 25) rfl), by decide +kernel⟩
theorem qw_604 : Cond.code yX6_goodOf cX6_goodOf 6 (some .int) ∈ wsL_law := tseg_3 (by decide +kernel) (List.mem_of_getElem? (i := 191) rfl)
theorem qw_605 : Cond.methodLink RX6 121 yX6_lowest ∈ wsL_law := tseg_3 (by decide +kernel) (List.mem_of_getElem? (i := 185) rfl)
theorem qw_606 : Cond.static yX6_lowest ∈ wsL_law := tseg_3 (by decide +kernel) (List.mem_of_getElem? (i := 186) rfl)
theorem qw_607 : Cond.code yX6_lowest cX6_lowest 2 (some .int) ∈ wsL_law := tseg_3 (by decide +kernel) (List.mem_of_getElem? (i := 187) rfl)
theorem qw_608 : Cond.methodLink RX6 114 yX2_together ∈ wsL_law := tseg_5 (by decide +kernel) (List.mem_of_getElem? (i := 110) rfl)
theorem qw_609 : Cond.methodLink RX6 111 yX2_weight ∈ wsL_law := tseg_5 (by decide +kernel) (List.mem_of_getElem? (i := 109) rfl)
theorem qw_610 : Cond.constantLong RX6 109 (12) ∈ wsL_law := tseg_5 (by decide +kernel) (List.mem_of_getElem? (i := 108) rfl)
theorem qw_611 : Cond.fieldLink RX6 92 "ChanceRings$Values" "whole" "J" ∈ wsL_law := tseg_2 (by decide +kernel) (List.mem_of_getElem? (i := 94) rfl)
theorem qw_612 : Cond.fieldLink RX6 15 "ChanceRings$Solver" "scaled" "[J" ∈ wsL_law := tseg_2 (by decide +kernel) (List.mem_of_getElem? (i := 65) rfl)
theorem qw_613 : Cond.methodLink RX6 103 arraycopyName ∈ wsL_law := tseg_5 (by decide +kernel) (List.mem_of_getElem? (i := 111) rfl)
theorem qw_614 : Cond.fieldLink RX6 96 "ChanceRings$Net" "pay" "[I" ∈ wsL_law := tseg_1 (by decide +kernel) (List.mem_of_getElem? (i := 75) rfl)
theorem qw_615 : Cond.methodLink RX6 99 yX6_oneMoveMore ∈ wsL_law := tseg_5 (by decide +kernel) (List.mem_of_getElem? (i := 104) rfl)
theorem qw_616 : Cond.instanceMethod yX6_oneMoveMore ∈ wsL_law := tseg_5 (by decide +kernel) (List.mem_of_getElem? (i := 106) rfl)
theorem qw_617 : Cond.selects RX6 yX6_oneMoveMore yX6_oneMoveMore ∈ wsL_law := List.mem_filter.mpr ⟨List.mem_append_left _ (List.mem_of_getElem? (i := 47) rfl), by decide +kernel⟩
theorem qw_618 : Cond.code yX6_oneMoveMore cX6_oneMoveMore 6 (some .long) ∈ wsL_law := tseg_5 (by decide +kernel) (List.mem_of_getElem? (i := 107) rfl)
theorem dX6_betterWay_0 : decode cX6_betterWay 0 = .ok (.aload_n 0, 1) := by decide +kernel
theorem dX6_betterWay_1 : decode cX6_betterWay 1 = .ok (.getfield 19, 3) := by decide +kernel
theorem dX6_betterWay_4 : decode cX6_betterWay 4 = .ok (.getfield 61, 3) := by decide +kernel
theorem dX6_betterWay_7 : decode cX6_betterWay 7 = .ok (.iload_n 1, 1) := by decide +kernel
theorem dX6_betterWay_8 : decode cX6_betterWay 8 = .ok (.iaload, 1) := by decide +kernel
theorem dX6_betterWay_9 : decode cX6_betterWay 9 = .ok (.iconst 1, 1) := by decide +kernel
theorem dX6_betterWay_10 : decode cX6_betterWay 10 = .ok (.if_icmp .ne 7, 3) := by decide +kernel
theorem dX6_betterWay_13 : decode cX6_betterWay 13 = .ok (.iconst 1, 1) := by decide +kernel
theorem dX6_betterWay_14 : decode cX6_betterWay 14 = .ok (.goto 4, 3) := by decide +kernel
theorem dX6_betterWay_17 : decode cX6_betterWay 17 = .ok (.iconst (-1), 1) := by decide +kernel
theorem dX6_betterWay_18 : decode cX6_betterWay 18 = .ok (.istore 4, 2) := by decide +kernel
theorem dX6_betterWay_20 : decode cX6_betterWay 20 = .ok (.iload_n 2, 1) := by decide +kernel
theorem dX6_betterWay_21 : decode cX6_betterWay 21 = .ok (.istore 5, 2) := by decide +kernel
theorem dX6_betterWay_23 : decode cX6_betterWay 23 = .ok (.iconst 0, 1) := by decide +kernel
theorem dX6_betterWay_24 : decode cX6_betterWay 24 = .ok (.istore 6, 2) := by decide +kernel
theorem dX6_betterWay_26 : decode cX6_betterWay 26 = .ok (.iload 6, 2) := by decide +kernel
theorem dX6_betterWay_28 : decode cX6_betterWay 28 = .ok (.aload_n 0, 1) := by decide +kernel
theorem dX6_betterWay_29 : decode cX6_betterWay 29 = .ok (.getfield 19, 3) := by decide +kernel
theorem dX6_betterWay_32 : decode cX6_betterWay 32 = .ok (.getfield 68, 3) := by decide +kernel
theorem dX6_betterWay_35 : decode cX6_betterWay 35 = .ok (.iload_n 1, 1) := by decide +kernel
theorem dX6_betterWay_36 : decode cX6_betterWay 36 = .ok (.iaload, 1) := by decide +kernel
theorem dX6_betterWay_37 : decode cX6_betterWay 37 = .ok (.if_icmp .ge 57, 3) := by decide +kernel
theorem dX6_betterWay_40 : decode cX6_betterWay 40 = .ok (.aload_n 3, 1) := by decide +kernel
theorem dX6_betterWay_41 : decode cX6_betterWay 41 = .ok (.getfield 71, 3) := by decide +kernel
theorem dX6_betterWay_44 : decode cX6_betterWay 44 = .ok (.aload_n 0, 1) := by decide +kernel
theorem dX6_betterWay_45 : decode cX6_betterWay 45 = .ok (.getfield 19, 3) := by decide +kernel
theorem dX6_betterWay_48 : decode cX6_betterWay 48 = .ok (.iload_n 1, 1) := by decide +kernel
theorem dX6_betterWay_49 : decode cX6_betterWay 49 = .ok (.iload 6, 2) := by decide +kernel
theorem dX6_betterWay_51 : decode cX6_betterWay 51 = .ok (.invokevirtual 76, 3) := by decide +kernel
theorem dX6_betterWay_54 : decode cX6_betterWay 54 = .ok (.laload, 1) := by decide +kernel
theorem dX6_betterWay_55 : decode cX6_betterWay 55 = .ok (.aload_n 3, 1) := by decide +kernel
theorem dX6_betterWay_56 : decode cX6_betterWay 56 = .ok (.getfield 71, 3) := by decide +kernel
theorem dX6_betterWay_59 : decode cX6_betterWay 59 = .ok (.aload_n 0, 1) := by decide +kernel
theorem dX6_betterWay_60 : decode cX6_betterWay 60 = .ok (.getfield 19, 3) := by decide +kernel
theorem dX6_betterWay_63 : decode cX6_betterWay 63 = .ok (.iload_n 1, 1) := by decide +kernel
theorem dX6_betterWay_64 : decode cX6_betterWay 64 = .ok (.iload 5, 2) := by decide +kernel
theorem dX6_betterWay_66 : decode cX6_betterWay 66 = .ok (.invokevirtual 76, 3) := by decide +kernel
theorem dX6_betterWay_69 : decode cX6_betterWay 69 = .ok (.laload, 1) := by decide +kernel
theorem dX6_betterWay_70 : decode cX6_betterWay 70 = .ok (.lsub, 1) := by decide +kernel
theorem dX6_betterWay_71 : decode cX6_betterWay 71 = .ok (.lstore 7, 2) := by decide +kernel
theorem dX6_betterWay_73 : decode cX6_betterWay 73 = .ok (.iload 4, 2) := by decide +kernel
theorem dX6_betterWay_75 : decode cX6_betterWay 75 = .ok (.i2l, 1) := by decide +kernel
theorem dX6_betterWay_76 : decode cX6_betterWay 76 = .ok (.lload 7, 2) := by decide +kernel
theorem dX6_betterWay_78 : decode cX6_betterWay 78 = .ok (.lmul, 1) := by decide +kernel
theorem dX6_betterWay_79 : decode cX6_betterWay 79 = .ok (.lconst 0, 1) := by decide +kernel
theorem dX6_betterWay_80 : decode cX6_betterWay 80 = .ok (.lcmp, 1) := by decide +kernel
theorem dX6_betterWay_81 : decode cX6_betterWay 81 = .ok (.ifCond .le 7, 3) := by decide +kernel
theorem dX6_betterWay_84 : decode cX6_betterWay 84 = .ok (.iload 6, 2) := by decide +kernel
theorem dX6_betterWay_86 : decode cX6_betterWay 86 = .ok (.istore 5, 2) := by decide +kernel
theorem dX6_betterWay_88 : decode cX6_betterWay 88 = .ok (.iinc 6 1, 3) := by decide +kernel
theorem dX6_betterWay_91 : decode cX6_betterWay 91 = .ok (.goto (-65), 3) := by decide +kernel
theorem dX6_betterWay_94 : decode cX6_betterWay 94 = .ok (.iload 5, 2) := by decide +kernel
theorem dX6_betterWay_96 : decode cX6_betterWay 96 = .ok (.ireturn, 1) := by decide +kernel
theorem dX6_bringsAll_0 : decode cX6_bringsAll 0 = .ok (.aload_n 0, 1) := by decide +kernel
theorem dX6_bringsAll_1 : decode cX6_bringsAll 1 = .ok (.getfield 19, 3) := by decide +kernel
theorem dX6_bringsAll_4 : decode cX6_bringsAll 4 = .ok (.invokevirtual 80, 3) := by decide +kernel
theorem dX6_bringsAll_7 : decode cX6_bringsAll 7 = .ok (.istore_n 2, 1) := by decide +kernel
theorem dX6_bringsAll_8 : decode cX6_bringsAll 8 = .ok (.iconst (-1), 1) := by decide +kernel
theorem dX6_bringsAll_9 : decode cX6_bringsAll 9 = .ok (.istore_n 3, 1) := by decide +kernel
theorem dX6_bringsAll_10 : decode cX6_bringsAll 10 = .ok (.iconst 0, 1) := by decide +kernel
theorem dX6_bringsAll_11 : decode cX6_bringsAll 11 = .ok (.istore 4, 2) := by decide +kernel
theorem dX6_bringsAll_13 : decode cX6_bringsAll 13 = .ok (.iload 4, 2) := by decide +kernel
theorem dX6_bringsAll_15 : decode cX6_bringsAll 15 = .ok (.bipush 12, 2) := by decide +kernel
theorem dX6_bringsAll_17 : decode cX6_bringsAll 17 = .ok (.if_icmp .ge 67, 3) := by decide +kernel
theorem dX6_bringsAll_20 : decode cX6_bringsAll 20 = .ok (.iload_n 2, 1) := by decide +kernel
theorem dX6_bringsAll_21 : decode cX6_bringsAll 21 = .ok (.iload_n 3, 1) := by decide +kernel
theorem dX6_bringsAll_22 : decode cX6_bringsAll 22 = .ok (.if_icmp .eq 62, 3) := by decide +kernel
theorem dX6_bringsAll_25 : decode cX6_bringsAll 25 = .ok (.iload_n 2, 1) := by decide +kernel
theorem dX6_bringsAll_26 : decode cX6_bringsAll 26 = .ok (.istore_n 3, 1) := by decide +kernel
theorem dX6_bringsAll_27 : decode cX6_bringsAll 27 = .ok (.iconst 0, 1) := by decide +kernel
theorem dX6_bringsAll_28 : decode cX6_bringsAll 28 = .ok (.istore 5, 2) := by decide +kernel
theorem dX6_bringsAll_30 : decode cX6_bringsAll 30 = .ok (.iload 5, 2) := by decide +kernel
theorem dX6_bringsAll_32 : decode cX6_bringsAll 32 = .ok (.aload_n 0, 1) := by decide +kernel
theorem dX6_bringsAll_33 : decode cX6_bringsAll 33 = .ok (.getfield 19, 3) := by decide +kernel
theorem dX6_bringsAll_36 : decode cX6_bringsAll 36 = .ok (.getfield 32, 3) := by decide +kernel
theorem dX6_bringsAll_39 : decode cX6_bringsAll 39 = .ok (.if_icmp .ge 39, 3) := by decide +kernel
theorem dX6_bringsAll_42 : decode cX6_bringsAll 42 = .ok (.aload_n 1, 1) := by decide +kernel
theorem dX6_bringsAll_43 : decode cX6_bringsAll 43 = .ok (.getfield 71, 3) := by decide +kernel
theorem dX6_bringsAll_46 : decode cX6_bringsAll 46 = .ok (.iload 5, 2) := by decide +kernel
theorem dX6_bringsAll_48 : decode cX6_bringsAll 48 = .ok (.laload, 1) := by decide +kernel
theorem dX6_bringsAll_49 : decode cX6_bringsAll 49 = .ok (.lconst 0, 1) := by decide +kernel
theorem dX6_bringsAll_50 : decode cX6_bringsAll 50 = .ok (.lcmp, 1) := by decide +kernel
theorem dX6_bringsAll_51 : decode cX6_bringsAll 51 = .ok (.ifCond .le 21, 3) := by decide +kernel
theorem dX6_bringsAll_54 : decode cX6_bringsAll 54 = .ok (.aload_n 0, 1) := by decide +kernel
theorem dX6_bringsAll_55 : decode cX6_bringsAll 55 = .ok (.iload 5, 2) := by decide +kernel
theorem dX6_bringsAll_57 : decode cX6_bringsAll 57 = .ok (.iload_n 2, 1) := by decide +kernel
theorem dX6_bringsAll_58 : decode cX6_bringsAll 58 = .ok (.aload_n 1, 1) := by decide +kernel
theorem dX6_bringsAll_59 : decode cX6_bringsAll 59 = .ok (.invokevirtual 136, 3) := by decide +kernel
theorem dX6_bringsAll_62 : decode cX6_bringsAll 62 = .ok (.ifCond .eq 10, 3) := by decide +kernel
theorem dX6_bringsAll_65 : decode cX6_bringsAll 65 = .ok (.iload_n 2, 1) := by decide +kernel
theorem dX6_bringsAll_66 : decode cX6_bringsAll 66 = .ok (.iconst 1, 1) := by decide +kernel
theorem dX6_bringsAll_67 : decode cX6_bringsAll 67 = .ok (.iload 5, 2) := by decide +kernel
theorem dX6_bringsAll_69 : decode cX6_bringsAll 69 = .ok (.ishl, 1) := by decide +kernel
theorem dX6_bringsAll_70 : decode cX6_bringsAll 70 = .ok (.ior, 1) := by decide +kernel
theorem dX6_bringsAll_71 : decode cX6_bringsAll 71 = .ok (.istore_n 2, 1) := by decide +kernel
theorem dX6_bringsAll_72 : decode cX6_bringsAll 72 = .ok (.iinc 5 1, 3) := by decide +kernel
theorem dX6_bringsAll_75 : decode cX6_bringsAll 75 = .ok (.goto (-45), 3) := by decide +kernel
theorem dX6_bringsAll_78 : decode cX6_bringsAll 78 = .ok (.iinc 4 1, 3) := by decide +kernel
theorem dX6_bringsAll_81 : decode cX6_bringsAll 81 = .ok (.goto (-68), 3) := by decide +kernel
theorem dX6_bringsAll_84 : decode cX6_bringsAll 84 = .ok (.iconst 0, 1) := by decide +kernel
theorem dX6_bringsAll_85 : decode cX6_bringsAll 85 = .ok (.istore 4, 2) := by decide +kernel
theorem dX6_bringsAll_87 : decode cX6_bringsAll 87 = .ok (.iload 4, 2) := by decide +kernel
theorem dX6_bringsAll_89 : decode cX6_bringsAll 89 = .ok (.aload_n 0, 1) := by decide +kernel
theorem dX6_bringsAll_90 : decode cX6_bringsAll 90 = .ok (.getfield 19, 3) := by decide +kernel
theorem dX6_bringsAll_93 : decode cX6_bringsAll 93 = .ok (.getfield 32, 3) := by decide +kernel
theorem dX6_bringsAll_96 : decode cX6_bringsAll 96 = .ok (.if_icmp .ge 32, 3) := by decide +kernel
theorem dX6_bringsAll_99 : decode cX6_bringsAll 99 = .ok (.aload_n 1, 1) := by decide +kernel
theorem dX6_bringsAll_100 : decode cX6_bringsAll 100 = .ok (.getfield 71, 3) := by decide +kernel
theorem dX6_bringsAll_103 : decode cX6_bringsAll 103 = .ok (.iload 4, 2) := by decide +kernel
theorem dX6_bringsAll_105 : decode cX6_bringsAll 105 = .ok (.laload, 1) := by decide +kernel
theorem dX6_bringsAll_106 : decode cX6_bringsAll 106 = .ok (.lconst 0, 1) := by decide +kernel
theorem dX6_bringsAll_107 : decode cX6_bringsAll 107 = .ok (.lcmp, 1) := by decide +kernel
theorem dX6_bringsAll_108 : decode cX6_bringsAll 108 = .ok (.ifCond .le 14, 3) := by decide +kernel
theorem dX6_bringsAll_111 : decode cX6_bringsAll 111 = .ok (.iload_n 2, 1) := by decide +kernel
theorem dX6_bringsAll_112 : decode cX6_bringsAll 112 = .ok (.iload 4, 2) := by decide +kernel
theorem dX6_bringsAll_114 : decode cX6_bringsAll 114 = .ok (.ishr, 1) := by decide +kernel
theorem dX6_bringsAll_115 : decode cX6_bringsAll 115 = .ok (.iconst 1, 1) := by decide +kernel
theorem dX6_bringsAll_116 : decode cX6_bringsAll 116 = .ok (.iand, 1) := by decide +kernel
theorem dX6_bringsAll_117 : decode cX6_bringsAll 117 = .ok (.ifCond .ne 5, 3) := by decide +kernel
theorem dX6_bringsAll_120 : decode cX6_bringsAll 120 = .ok (.iconst 0, 1) := by decide +kernel
theorem dX6_bringsAll_121 : decode cX6_bringsAll 121 = .ok (.ireturn, 1) := by decide +kernel
theorem dX6_bringsAll_122 : decode cX6_bringsAll 122 = .ok (.iinc 4 1, 3) := by decide +kernel
theorem dX6_bringsAll_125 : decode cX6_bringsAll 125 = .ok (.goto (-38), 3) := by decide +kernel
theorem dX6_bringsAll_128 : decode cX6_bringsAll 128 = .ok (.iconst 1, 1) := by decide +kernel
theorem dX6_bringsAll_129 : decode cX6_bringsAll 129 = .ok (.ireturn, 1) := by decide +kernel
theorem dX6_findBest_0 : decode cX6_findBest 0 = .ok (.aload_n 0, 1) := by decide +kernel
theorem dX6_findBest_1 : decode cX6_findBest 1 = .ok (.aload_n 1, 1) := by decide +kernel
theorem dX6_findBest_2 : decode cX6_findBest 2 = .ok (.invokevirtual 117, 3) := by decide +kernel
theorem dX6_findBest_5 : decode cX6_findBest 5 = .ok (.iconst 0, 1) := by decide +kernel
theorem dX6_findBest_6 : decode cX6_findBest 6 = .ok (.istore_n 3, 1) := by decide +kernel
theorem dX6_findBest_7 : decode cX6_findBest 7 = .ok (.iload_n 3, 1) := by decide +kernel
theorem dX6_findBest_8 : decode cX6_findBest 8 = .ok (.aload_n 0, 1) := by decide +kernel
theorem dX6_findBest_9 : decode cX6_findBest 9 = .ok (.getfield 19, 3) := by decide +kernel
theorem dX6_findBest_12 : decode cX6_findBest 12 = .ok (.getfield 32, 3) := by decide +kernel
theorem dX6_findBest_15 : decode cX6_findBest 15 = .ok (.if_icmp .ge 73, 3) := by decide +kernel
theorem dX6_findBest_18 : decode cX6_findBest 18 = .ok (.aload_n 0, 1) := by decide +kernel
theorem dX6_findBest_19 : decode cX6_findBest 19 = .ok (.getfield 19, 3) := by decide +kernel
theorem dX6_findBest_22 : decode cX6_findBest 22 = .ok (.getfield 61, 3) := by decide +kernel
theorem dX6_findBest_25 : decode cX6_findBest 25 = .ok (.iload_n 3, 1) := by decide +kernel
theorem dX6_findBest_26 : decode cX6_findBest 26 = .ok (.iaload, 1) := by decide +kernel
theorem dX6_findBest_27 : decode cX6_findBest 27 = .ok (.iconst 2, 1) := by decide +kernel
theorem dX6_findBest_28 : decode cX6_findBest 28 = .ok (.if_icmp .ne 18, 3) := by decide +kernel
theorem dX6_findBest_31 : decode cX6_findBest 31 = .ok (.aload_n 2, 1) := by decide +kernel
theorem dX6_findBest_32 : decode cX6_findBest 32 = .ok (.iload_n 3, 1) := by decide +kernel
theorem dX6_findBest_33 : decode cX6_findBest 33 = .ok (.aload_n 0, 1) := by decide +kernel
theorem dX6_findBest_34 : decode cX6_findBest 34 = .ok (.getfield 9, 3) := by decide +kernel
theorem dX6_findBest_37 : decode cX6_findBest 37 = .ok (.iload_n 3, 1) := by decide +kernel
theorem dX6_findBest_38 : decode cX6_findBest 38 = .ok (.iaload, 1) := by decide +kernel
theorem dX6_findBest_39 : decode cX6_findBest 39 = .ok (.invokestatic 121, 3) := by decide +kernel
theorem dX6_findBest_42 : decode cX6_findBest 42 = .ok (.iastore, 1) := by decide +kernel
theorem dX6_findBest_43 : decode cX6_findBest 43 = .ok (.goto 39, 3) := by decide +kernel
theorem dX6_findBest_46 : decode cX6_findBest 46 = .ok (.aload_n 0, 1) := by decide +kernel
theorem dX6_findBest_47 : decode cX6_findBest 47 = .ok (.getfield 19, 3) := by decide +kernel
theorem dX6_findBest_50 : decode cX6_findBest 50 = .ok (.getfield 61, 3) := by decide +kernel
theorem dX6_findBest_53 : decode cX6_findBest 53 = .ok (.iload_n 3, 1) := by decide +kernel
theorem dX6_findBest_54 : decode cX6_findBest 54 = .ok (.iaload, 1) := by decide +kernel
theorem dX6_findBest_55 : decode cX6_findBest 55 = .ok (.iconst 1, 1) := by decide +kernel
theorem dX6_findBest_56 : decode cX6_findBest 56 = .ok (.if_icmp .ne 26, 3) := by decide +kernel
theorem dX6_findBest_59 : decode cX6_findBest 59 = .ok (.aload_n 2, 1) := by decide +kernel
theorem dX6_findBest_60 : decode cX6_findBest 60 = .ok (.iload_n 3, 1) := by decide +kernel
theorem dX6_findBest_61 : decode cX6_findBest 61 = .ok (.aload_n 0, 1) := by decide +kernel
theorem dX6_findBest_62 : decode cX6_findBest 62 = .ok (.iload_n 3, 1) := by decide +kernel
theorem dX6_findBest_63 : decode cX6_findBest 63 = .ok (.aload_n 1, 1) := by decide +kernel
theorem dX6_findBest_64 : decode cX6_findBest 64 = .ok (.invokevirtual 124, 3) := by decide +kernel
theorem dX6_findBest_67 : decode cX6_findBest 67 = .ok (.invokestatic 121, 3) := by decide +kernel
theorem dX6_findBest_70 : decode cX6_findBest 70 = .ok (.iastore, 1) := by decide +kernel
theorem dX6_findBest_71 : decode cX6_findBest 71 = .ok (.aload_n 0, 1) := by decide +kernel
theorem dX6_findBest_72 : decode cX6_findBest 72 = .ok (.getfield 9, 3) := by decide +kernel
theorem dX6_findBest_75 : decode cX6_findBest 75 = .ok (.iload_n 3, 1) := by decide +kernel
theorem dX6_findBest_76 : decode cX6_findBest 76 = .ok (.iconst 1, 1) := by decide +kernel
theorem dX6_findBest_77 : decode cX6_findBest 77 = .ok (.aload_n 2, 1) := by decide +kernel
theorem dX6_findBest_78 : decode cX6_findBest 78 = .ok (.iload_n 3, 1) := by decide +kernel
theorem dX6_findBest_79 : decode cX6_findBest 79 = .ok (.iaload, 1) := by decide +kernel
theorem dX6_findBest_80 : decode cX6_findBest 80 = .ok (.ishl, 1) := by decide +kernel
theorem dX6_findBest_81 : decode cX6_findBest 81 = .ok (.iastore, 1) := by decide +kernel
theorem dX6_findBest_82 : decode cX6_findBest 82 = .ok (.iinc 3 1, 3) := by decide +kernel
theorem dX6_findBest_85 : decode cX6_findBest 85 = .ok (.goto (-78), 3) := by decide +kernel
theorem dX6_findBest_88 : decode cX6_findBest 88 = .ok (.return_, 1) := by decide +kernel
theorem dX6_findLeft_0 : decode cX6_findLeft 0 = .ok (.aload_n 0, 1) := by decide +kernel
theorem dX6_findLeft_1 : decode cX6_findLeft 1 = .ok (.aload_n 1, 1) := by decide +kernel
theorem dX6_findLeft_2 : decode cX6_findLeft 2 = .ok (.invokevirtual 41, 3) := by decide +kernel
theorem dX6_findLeft_5 : decode cX6_findLeft 5 = .ok (.istore 5, 2) := by decide +kernel
theorem dX6_findLeft_7 : decode cX6_findLeft 7 = .ok (.iconst 1, 1) := by decide +kernel
theorem dX6_findLeft_8 : decode cX6_findLeft 8 = .ok (.istore 6, 2) := by decide +kernel
theorem dX6_findLeft_10 : decode cX6_findLeft 10 = .ok (.iconst 0, 1) := by decide +kernel
theorem dX6_findLeft_11 : decode cX6_findLeft 11 = .ok (.istore 7, 2) := by decide +kernel
theorem dX6_findLeft_13 : decode cX6_findLeft 13 = .ok (.iload 6, 2) := by decide +kernel
theorem dX6_findLeft_15 : decode cX6_findLeft 15 = .ok (.ifCond .eq 51, 3) := by decide +kernel
theorem dX6_findLeft_18 : decode cX6_findLeft 18 = .ok (.iload 7, 2) := by decide +kernel
theorem dX6_findLeft_20 : decode cX6_findLeft 20 = .ok (.sipush 6561, 3) := by decide +kernel
theorem dX6_findLeft_23 : decode cX6_findLeft 23 = .ok (.if_icmp .ge 43, 3) := by decide +kernel
theorem dX6_findLeft_26 : decode cX6_findLeft 26 = .ok (.aload_n 0, 1) := by decide +kernel
theorem dX6_findLeft_27 : decode cX6_findLeft 27 = .ok (.getfield 28, 3) := by decide +kernel
theorem dX6_findLeft_30 : decode cX6_findLeft 30 = .ok (.aload_n 1, 1) := by decide +kernel
theorem dX6_findLeft_31 : decode cX6_findLeft 31 = .ok (.iload 5, 2) := by decide +kernel
theorem dX6_findLeft_33 : decode cX6_findLeft 33 = .ok (.iload_n 2, 1) := by decide +kernel
theorem dX6_findLeft_34 : decode cX6_findLeft 34 = .ok (.iload_n 3, 1) := by decide +kernel
theorem dX6_findLeft_35 : decode cX6_findLeft 35 = .ok (.aload 4, 2) := by decide +kernel
theorem dX6_findLeft_37 : decode cX6_findLeft 37 = .ok (.invokevirtual 45, 3) := by decide +kernel
theorem dX6_findLeft_40 : decode cX6_findLeft 40 = .ok (.aload_n 0, 1) := by decide +kernel
theorem dX6_findLeft_41 : decode cX6_findLeft 41 = .ok (.iconst 2, 1) := by decide +kernel
theorem dX6_findLeft_42 : decode cX6_findLeft 42 = .ok (.aload_n 1, 1) := by decide +kernel
theorem dX6_findLeft_43 : decode cX6_findLeft 43 = .ok (.aload 4, 2) := by decide +kernel
theorem dX6_findLeft_45 : decode cX6_findLeft 45 = .ok (.iload 5, 2) := by decide +kernel
theorem dX6_findLeft_47 : decode cX6_findLeft 47 = .ok (.invokevirtual 49, 3) := by decide +kernel
theorem dX6_findLeft_50 : decode cX6_findLeft 50 = .ok (.ifCond .le 7, 3) := by decide +kernel
theorem dX6_findLeft_53 : decode cX6_findLeft 53 = .ok (.iconst 1, 1) := by decide +kernel
theorem dX6_findLeft_54 : decode cX6_findLeft 54 = .ok (.goto 4, 3) := by decide +kernel
theorem dX6_findLeft_57 : decode cX6_findLeft 57 = .ok (.iconst 0, 1) := by decide +kernel
theorem dX6_findLeft_58 : decode cX6_findLeft 58 = .ok (.istore 6, 2) := by decide +kernel
theorem dX6_findLeft_60 : decode cX6_findLeft 60 = .ok (.iinc 7 1, 3) := by decide +kernel
theorem dX6_findLeft_63 : decode cX6_findLeft 63 = .ok (.goto (-50), 3) := by decide +kernel
theorem dX6_findLeft_66 : decode cX6_findLeft 66 = .ok (.return_, 1) := by decide +kernel
theorem dX6_findWithin_0 : decode cX6_findWithin 0 = .ok (.aload_n 2, 1) := by decide +kernel
theorem dX6_findWithin_1 : decode cX6_findWithin 1 = .ok (.lconst 1, 1) := by decide +kernel
theorem dX6_findWithin_2 : decode cX6_findWithin 2 = .ok (.putfield 92, 3) := by decide +kernel
theorem dX6_findWithin_5 : decode cX6_findWithin 5 = .ok (.iconst 0, 1) := by decide +kernel
theorem dX6_findWithin_6 : decode cX6_findWithin 6 = .ok (.istore_n 3, 1) := by decide +kernel
theorem dX6_findWithin_7 : decode cX6_findWithin 7 = .ok (.iload_n 3, 1) := by decide +kernel
theorem dX6_findWithin_8 : decode cX6_findWithin 8 = .ok (.aload_n 0, 1) := by decide +kernel
theorem dX6_findWithin_9 : decode cX6_findWithin 9 = .ok (.getfield 19, 3) := by decide +kernel
theorem dX6_findWithin_12 : decode cX6_findWithin 12 = .ok (.getfield 32, 3) := by decide +kernel
theorem dX6_findWithin_15 : decode cX6_findWithin 15 = .ok (.if_icmp .ge 41, 3) := by decide +kernel
theorem dX6_findWithin_18 : decode cX6_findWithin 18 = .ok (.aload_n 2, 1) := by decide +kernel
theorem dX6_findWithin_19 : decode cX6_findWithin 19 = .ok (.getfield 71, 3) := by decide +kernel
theorem dX6_findWithin_22 : decode cX6_findWithin 22 = .ok (.iload_n 3, 1) := by decide +kernel
theorem dX6_findWithin_23 : decode cX6_findWithin 23 = .ok (.aload_n 0, 1) := by decide +kernel
theorem dX6_findWithin_24 : decode cX6_findWithin 24 = .ok (.getfield 19, 3) := by decide +kernel
theorem dX6_findWithin_27 : decode cX6_findWithin 27 = .ok (.getfield 61, 3) := by decide +kernel
theorem dX6_findWithin_30 : decode cX6_findWithin 30 = .ok (.iload_n 3, 1) := by decide +kernel
theorem dX6_findWithin_31 : decode cX6_findWithin 31 = .ok (.iaload, 1) := by decide +kernel
theorem dX6_findWithin_32 : decode cX6_findWithin 32 = .ok (.ifCond .ne 16, 3) := by decide +kernel
theorem dX6_findWithin_35 : decode cX6_findWithin 35 = .ok (.aload_n 0, 1) := by decide +kernel
theorem dX6_findWithin_36 : decode cX6_findWithin 36 = .ok (.getfield 19, 3) := by decide +kernel
theorem dX6_findWithin_39 : decode cX6_findWithin 39 = .ok (.getfield 96, 3) := by decide +kernel
theorem dX6_findWithin_42 : decode cX6_findWithin 42 = .ok (.iload_n 3, 1) := by decide +kernel
theorem dX6_findWithin_43 : decode cX6_findWithin 43 = .ok (.iaload, 1) := by decide +kernel
theorem dX6_findWithin_44 : decode cX6_findWithin 44 = .ok (.i2l, 1) := by decide +kernel
theorem dX6_findWithin_45 : decode cX6_findWithin 45 = .ok (.goto 4, 3) := by decide +kernel
theorem dX6_findWithin_48 : decode cX6_findWithin 48 = .ok (.lconst 0, 1) := by decide +kernel
theorem dX6_findWithin_49 : decode cX6_findWithin 49 = .ok (.lastore, 1) := by decide +kernel
theorem dX6_findWithin_50 : decode cX6_findWithin 50 = .ok (.iinc 3 1, 3) := by decide +kernel
theorem dX6_findWithin_53 : decode cX6_findWithin 53 = .ok (.goto (-46), 3) := by decide +kernel
theorem dX6_findWithin_56 : decode cX6_findWithin 56 = .ok (.iconst 0, 1) := by decide +kernel
theorem dX6_findWithin_57 : decode cX6_findWithin 57 = .ok (.istore_n 3, 1) := by decide +kernel
theorem dX6_findWithin_58 : decode cX6_findWithin 58 = .ok (.iload_n 3, 1) := by decide +kernel
theorem dX6_findWithin_59 : decode cX6_findWithin 59 = .ok (.iload_n 1, 1) := by decide +kernel
theorem dX6_findWithin_60 : decode cX6_findWithin 60 = .ok (.if_icmp .ge 71, 3) := by decide +kernel
theorem dX6_findWithin_63 : decode cX6_findWithin 63 = .ok (.iconst 0, 1) := by decide +kernel
theorem dX6_findWithin_64 : decode cX6_findWithin 64 = .ok (.istore 4, 2) := by decide +kernel
theorem dX6_findWithin_66 : decode cX6_findWithin 66 = .ok (.iload 4, 2) := by decide +kernel
theorem dX6_findWithin_68 : decode cX6_findWithin 68 = .ok (.aload_n 0, 1) := by decide +kernel
theorem dX6_findWithin_69 : decode cX6_findWithin 69 = .ok (.getfield 19, 3) := by decide +kernel
theorem dX6_findWithin_72 : decode cX6_findWithin 72 = .ok (.getfield 32, 3) := by decide +kernel
theorem dX6_findWithin_75 : decode cX6_findWithin 75 = .ok (.if_icmp .ge 23, 3) := by decide +kernel
theorem dX6_findWithin_78 : decode cX6_findWithin 78 = .ok (.aload_n 0, 1) := by decide +kernel
theorem dX6_findWithin_79 : decode cX6_findWithin 79 = .ok (.getfield 15, 3) := by decide +kernel
theorem dX6_findWithin_82 : decode cX6_findWithin 82 = .ok (.iload 4, 2) := by decide +kernel
theorem dX6_findWithin_84 : decode cX6_findWithin 84 = .ok (.aload_n 0, 1) := by decide +kernel
theorem dX6_findWithin_85 : decode cX6_findWithin 85 = .ok (.iload 4, 2) := by decide +kernel
theorem dX6_findWithin_87 : decode cX6_findWithin 87 = .ok (.aload_n 2, 1) := by decide +kernel
theorem dX6_findWithin_88 : decode cX6_findWithin 88 = .ok (.invokevirtual 99, 3) := by decide +kernel
theorem dX6_findWithin_91 : decode cX6_findWithin 91 = .ok (.lastore, 1) := by decide +kernel
theorem dX6_findWithin_92 : decode cX6_findWithin 92 = .ok (.iinc 4 1, 3) := by decide +kernel
theorem dX6_findWithin_95 : decode cX6_findWithin 95 = .ok (.goto (-29), 3) := by decide +kernel
theorem dX6_findWithin_98 : decode cX6_findWithin 98 = .ok (.aload_n 0, 1) := by decide +kernel
theorem dX6_findWithin_99 : decode cX6_findWithin 99 = .ok (.getfield 15, 3) := by decide +kernel
theorem dX6_findWithin_102 : decode cX6_findWithin 102 = .ok (.iconst 0, 1) := by decide +kernel
theorem dX6_findWithin_103 : decode cX6_findWithin 103 = .ok (.aload_n 2, 1) := by decide +kernel
theorem dX6_findWithin_104 : decode cX6_findWithin 104 = .ok (.getfield 71, 3) := by decide +kernel
theorem dX6_findWithin_107 : decode cX6_findWithin 107 = .ok (.iconst 0, 1) := by decide +kernel
theorem dX6_findWithin_108 : decode cX6_findWithin 108 = .ok (.bipush 12, 2) := by decide +kernel
theorem dX6_findWithin_110 : decode cX6_findWithin 110 = .ok (.invokestatic 103, 3) := by decide +kernel
theorem dX6_findWithin_113 : decode cX6_findWithin 113 = .ok (.aload_n 2, 1) := by decide +kernel
theorem dX6_findWithin_114 : decode cX6_findWithin 114 = .ok (.dup, 1) := by decide +kernel
theorem dX6_findWithin_115 : decode cX6_findWithin 115 = .ok (.getfield 92, 3) := by decide +kernel
theorem dX6_findWithin_118 : decode cX6_findWithin 118 = .ok (.ldc2_w 109, 3) := by decide +kernel
theorem dX6_findWithin_121 : decode cX6_findWithin 121 = .ok (.lmul, 1) := by decide +kernel
theorem dX6_findWithin_122 : decode cX6_findWithin 122 = .ok (.putfield 92, 3) := by decide +kernel
theorem dX6_findWithin_125 : decode cX6_findWithin 125 = .ok (.iinc 3 1, 3) := by decide +kernel
theorem dX6_findWithin_128 : decode cX6_findWithin 128 = .ok (.goto (-70), 3) := by decide +kernel
theorem dX6_findWithin_131 : decode cX6_findWithin 131 = .ok (.return_, 1) := by decide +kernel
theorem dX6_findWorth_0 : decode cX6_findWorth 0 = .ok (.iconst 1, 1) := by decide +kernel
theorem dX6_findWorth_1 : decode cX6_findWorth 1 = .ok (.istore 5, 2) := by decide +kernel
theorem dX6_findWorth_3 : decode cX6_findWorth 3 = .ok (.iconst 0, 1) := by decide +kernel
theorem dX6_findWorth_4 : decode cX6_findWorth 4 = .ok (.istore 6, 2) := by decide +kernel
theorem dX6_findWorth_6 : decode cX6_findWorth 6 = .ok (.iload 5, 2) := by decide +kernel
theorem dX6_findWorth_8 : decode cX6_findWorth 8 = .ok (.ifCond .eq 44, 3) := by decide +kernel
theorem dX6_findWorth_11 : decode cX6_findWorth 11 = .ok (.iload 6, 2) := by decide +kernel
theorem dX6_findWorth_13 : decode cX6_findWorth 13 = .ok (.sipush 6561, 3) := by decide +kernel
theorem dX6_findWorth_16 : decode cX6_findWorth 16 = .ok (.if_icmp .ge 36, 3) := by decide +kernel
theorem dX6_findWorth_19 : decode cX6_findWorth 19 = .ok (.aload_n 0, 1) := by decide +kernel
theorem dX6_findWorth_20 : decode cX6_findWorth 20 = .ok (.aload_n 1, 1) := by decide +kernel
theorem dX6_findWorth_21 : decode cX6_findWorth 21 = .ok (.iload_n 2, 1) := by decide +kernel
theorem dX6_findWorth_22 : decode cX6_findWorth 22 = .ok (.iload_n 3, 1) := by decide +kernel
theorem dX6_findWorth_23 : decode cX6_findWorth 23 = .ok (.aload 4, 2) := by decide +kernel
theorem dX6_findWorth_25 : decode cX6_findWorth 25 = .ok (.invokevirtual 53, 3) := by decide +kernel
theorem dX6_findWorth_28 : decode cX6_findWorth 28 = .ok (.aload_n 0, 1) := by decide +kernel
theorem dX6_findWorth_29 : decode cX6_findWorth 29 = .ok (.iconst 1, 1) := by decide +kernel
theorem dX6_findWorth_30 : decode cX6_findWorth 30 = .ok (.aload_n 1, 1) := by decide +kernel
theorem dX6_findWorth_31 : decode cX6_findWorth 31 = .ok (.aload 4, 2) := by decide +kernel
theorem dX6_findWorth_33 : decode cX6_findWorth 33 = .ok (.invokevirtual 57, 3) := by decide +kernel
theorem dX6_findWorth_36 : decode cX6_findWorth 36 = .ok (.ifCond .le 7, 3) := by decide +kernel
theorem dX6_findWorth_39 : decode cX6_findWorth 39 = .ok (.iconst 1, 1) := by decide +kernel
theorem dX6_findWorth_40 : decode cX6_findWorth 40 = .ok (.goto 4, 3) := by decide +kernel
theorem dX6_findWorth_43 : decode cX6_findWorth 43 = .ok (.iconst 0, 1) := by decide +kernel
theorem dX6_findWorth_44 : decode cX6_findWorth 44 = .ok (.istore 5, 2) := by decide +kernel
theorem dX6_findWorth_46 : decode cX6_findWorth 46 = .ok (.iinc 6 1, 3) := by decide +kernel
theorem dX6_findWorth_49 : decode cX6_findWorth 49 = .ok (.goto (-43), 3) := by decide +kernel
theorem dX6_findWorth_52 : decode cX6_findWorth 52 = .ok (.return_, 1) := by decide +kernel
theorem dX6_firstWays_0 : decode cX6_firstWays 0 = .ok (.iconst 0, 1) := by decide +kernel
theorem dX6_firstWays_1 : decode cX6_firstWays 1 = .ok (.istore_n 2, 1) := by decide +kernel
theorem dX6_firstWays_2 : decode cX6_firstWays 2 = .ok (.iload_n 2, 1) := by decide +kernel
theorem dX6_firstWays_3 : decode cX6_firstWays 3 = .ok (.aload_n 0, 1) := by decide +kernel
theorem dX6_firstWays_4 : decode cX6_firstWays 4 = .ok (.getfield 19, 3) := by decide +kernel
theorem dX6_firstWays_7 : decode cX6_firstWays 7 = .ok (.getfield 32, 3) := by decide +kernel
theorem dX6_firstWays_10 : decode cX6_firstWays 10 = .ok (.if_icmp .ge 38, 3) := by decide +kernel
theorem dX6_firstWays_13 : decode cX6_firstWays 13 = .ok (.aload_n 1, 1) := by decide +kernel
theorem dX6_firstWays_14 : decode cX6_firstWays 14 = .ok (.iload_n 2, 1) := by decide +kernel
theorem dX6_firstWays_15 : decode cX6_firstWays 15 = .ok (.aload_n 0, 1) := by decide +kernel
theorem dX6_firstWays_16 : decode cX6_firstWays 16 = .ok (.getfield 19, 3) := by decide +kernel
theorem dX6_firstWays_19 : decode cX6_firstWays 19 = .ok (.getfield 38, 3) := by decide +kernel
theorem dX6_firstWays_22 : decode cX6_firstWays 22 = .ok (.iload_n 2, 1) := by decide +kernel
theorem dX6_firstWays_23 : decode cX6_firstWays 23 = .ok (.iaload, 1) := by decide +kernel
theorem dX6_firstWays_24 : decode cX6_firstWays 24 = .ok (.iconst (-1), 1) := by decide +kernel
theorem dX6_firstWays_25 : decode cX6_firstWays 25 = .ok (.if_icmp .ne 7, 3) := by decide +kernel
theorem dX6_firstWays_28 : decode cX6_firstWays 28 = .ok (.iconst 0, 1) := by decide +kernel
theorem dX6_firstWays_29 : decode cX6_firstWays 29 = .ok (.goto 12, 3) := by decide +kernel
theorem dX6_firstWays_32 : decode cX6_firstWays 32 = .ok (.aload_n 0, 1) := by decide +kernel
theorem dX6_firstWays_33 : decode cX6_firstWays 33 = .ok (.getfield 19, 3) := by decide +kernel
theorem dX6_firstWays_36 : decode cX6_firstWays 36 = .ok (.getfield 38, 3) := by decide +kernel
theorem dX6_firstWays_39 : decode cX6_firstWays 39 = .ok (.iload_n 2, 1) := by decide +kernel
theorem dX6_firstWays_40 : decode cX6_firstWays 40 = .ok (.iaload, 1) := by decide +kernel
theorem dX6_firstWays_41 : decode cX6_firstWays 41 = .ok (.iastore, 1) := by decide +kernel
theorem dX6_firstWays_42 : decode cX6_firstWays 42 = .ok (.iinc 2 1, 3) := by decide +kernel
theorem dX6_firstWays_45 : decode cX6_firstWays 45 = .ok (.goto (-43), 3) := by decide +kernel
theorem dX6_firstWays_48 : decode cX6_firstWays 48 = .ok (.return_, 1) := by decide +kernel
theorem dX6_goodOf_0 : decode cX6_goodOf 0 = .ok (.aload_n 0, 1) := by decide +kernel
theorem dX6_goodOf_1 : decode cX6_goodOf 1 = .ok (.getfield 9, 3) := by decide +kernel
theorem dX6_goodOf_4 : decode cX6_goodOf 4 = .ok (.iload_n 1, 1) := by decide +kernel
theorem dX6_goodOf_5 : decode cX6_goodOf 5 = .ok (.iaload, 1) := by decide +kernel
theorem dX6_goodOf_6 : decode cX6_goodOf 6 = .ok (.istore_n 3, 1) := by decide +kernel
theorem dX6_goodOf_7 : decode cX6_goodOf 7 = .ok (.aload_n 0, 1) := by decide +kernel
theorem dX6_goodOf_8 : decode cX6_goodOf 8 = .ok (.getfield 19, 3) := by decide +kernel
theorem dX6_goodOf_11 : decode cX6_goodOf 11 = .ok (.getfield 61, 3) := by decide +kernel
theorem dX6_goodOf_14 : decode cX6_goodOf 14 = .ok (.iload_n 1, 1) := by decide +kernel
theorem dX6_goodOf_15 : decode cX6_goodOf 15 = .ok (.iaload, 1) := by decide +kernel
theorem dX6_goodOf_16 : decode cX6_goodOf 16 = .ok (.iconst 2, 1) := by decide +kernel
theorem dX6_goodOf_17 : decode cX6_goodOf 17 = .ok (.if_icmp .ne 5, 3) := by decide +kernel
theorem dX6_goodOf_20 : decode cX6_goodOf 20 = .ok (.iload_n 3, 1) := by decide +kernel
theorem dX6_goodOf_21 : decode cX6_goodOf 21 = .ok (.ireturn, 1) := by decide +kernel
theorem dX6_goodOf_22 : decode cX6_goodOf 22 = .ok (.iconst 0, 1) := by decide +kernel
theorem dX6_goodOf_23 : decode cX6_goodOf 23 = .ok (.istore 4, 2) := by decide +kernel
theorem dX6_goodOf_25 : decode cX6_goodOf 25 = .ok (.iconst 0, 1) := by decide +kernel
theorem dX6_goodOf_26 : decode cX6_goodOf 26 = .ok (.istore 5, 2) := by decide +kernel
theorem dX6_goodOf_28 : decode cX6_goodOf 28 = .ok (.iload 5, 2) := by decide +kernel
theorem dX6_goodOf_30 : decode cX6_goodOf 30 = .ok (.aload_n 0, 1) := by decide +kernel
theorem dX6_goodOf_31 : decode cX6_goodOf 31 = .ok (.getfield 19, 3) := by decide +kernel
theorem dX6_goodOf_34 : decode cX6_goodOf 34 = .ok (.getfield 68, 3) := by decide +kernel
theorem dX6_goodOf_37 : decode cX6_goodOf 37 = .ok (.iload_n 1, 1) := by decide +kernel
theorem dX6_goodOf_38 : decode cX6_goodOf 38 = .ok (.iaload, 1) := by decide +kernel
theorem dX6_goodOf_39 : decode cX6_goodOf 39 = .ok (.if_icmp .ge 47, 3) := by decide +kernel
theorem dX6_goodOf_42 : decode cX6_goodOf 42 = .ok (.aload_n 0, 1) := by decide +kernel
theorem dX6_goodOf_43 : decode cX6_goodOf 43 = .ok (.getfield 9, 3) := by decide +kernel
theorem dX6_goodOf_46 : decode cX6_goodOf 46 = .ok (.iload_n 1, 1) := by decide +kernel
theorem dX6_goodOf_47 : decode cX6_goodOf 47 = .ok (.iload_n 3, 1) := by decide +kernel
theorem dX6_goodOf_48 : decode cX6_goodOf 48 = .ok (.iconst 1, 1) := by decide +kernel
theorem dX6_goodOf_49 : decode cX6_goodOf 49 = .ok (.iload 5, 2) := by decide +kernel
theorem dX6_goodOf_51 : decode cX6_goodOf 51 = .ok (.ishl, 1) := by decide +kernel
theorem dX6_goodOf_52 : decode cX6_goodOf 52 = .ok (.iand, 1) := by decide +kernel
theorem dX6_goodOf_53 : decode cX6_goodOf 53 = .ok (.iastore, 1) := by decide +kernel
theorem dX6_goodOf_54 : decode cX6_goodOf 54 = .ok (.aload_n 0, 1) := by decide +kernel
theorem dX6_goodOf_55 : decode cX6_goodOf 55 = .ok (.getfield 9, 3) := by decide +kernel
theorem dX6_goodOf_58 : decode cX6_goodOf 58 = .ok (.iload_n 1, 1) := by decide +kernel
theorem dX6_goodOf_59 : decode cX6_goodOf 59 = .ok (.iaload, 1) := by decide +kernel
theorem dX6_goodOf_60 : decode cX6_goodOf 60 = .ok (.ifCond .eq 20, 3) := by decide +kernel
theorem dX6_goodOf_63 : decode cX6_goodOf 63 = .ok (.aload_n 0, 1) := by decide +kernel
theorem dX6_goodOf_64 : decode cX6_goodOf 64 = .ok (.aload_n 2, 1) := by decide +kernel
theorem dX6_goodOf_65 : decode cX6_goodOf 65 = .ok (.invokevirtual 132, 3) := by decide +kernel
theorem dX6_goodOf_68 : decode cX6_goodOf 68 = .ok (.ifCond .eq 12, 3) := by decide +kernel
theorem dX6_goodOf_71 : decode cX6_goodOf 71 = .ok (.iload 4, 2) := by decide +kernel
theorem dX6_goodOf_73 : decode cX6_goodOf 73 = .ok (.iconst 1, 1) := by decide +kernel
theorem dX6_goodOf_74 : decode cX6_goodOf 74 = .ok (.iload 5, 2) := by decide +kernel
theorem dX6_goodOf_76 : decode cX6_goodOf 76 = .ok (.ishl, 1) := by decide +kernel
theorem dX6_goodOf_77 : decode cX6_goodOf 77 = .ok (.ior, 1) := by decide +kernel
theorem dX6_goodOf_78 : decode cX6_goodOf 78 = .ok (.istore 4, 2) := by decide +kernel
theorem dX6_goodOf_80 : decode cX6_goodOf 80 = .ok (.iinc 5 1, 3) := by decide +kernel
theorem dX6_goodOf_83 : decode cX6_goodOf 83 = .ok (.goto (-55), 3) := by decide +kernel
theorem dX6_goodOf_86 : decode cX6_goodOf 86 = .ok (.aload_n 0, 1) := by decide +kernel
theorem dX6_goodOf_87 : decode cX6_goodOf 87 = .ok (.getfield 9, 3) := by decide +kernel
theorem dX6_goodOf_90 : decode cX6_goodOf 90 = .ok (.iload_n 1, 1) := by decide +kernel
theorem dX6_goodOf_91 : decode cX6_goodOf 91 = .ok (.iload_n 3, 1) := by decide +kernel
theorem dX6_goodOf_92 : decode cX6_goodOf 92 = .ok (.iastore, 1) := by decide +kernel
theorem dX6_goodOf_93 : decode cX6_goodOf 93 = .ok (.iload 4, 2) := by decide +kernel
theorem dX6_goodOf_95 : decode cX6_goodOf 95 = .ok (.ireturn, 1) := by decide +kernel
theorem dX6_goodWays_0 : decode cX6_goodWays 0 = .ok (.aload_n 0, 1) := by decide +kernel
theorem dX6_goodWays_1 : decode cX6_goodWays 1 = .ok (.aload_n 2, 1) := by decide +kernel
theorem dX6_goodWays_2 : decode cX6_goodWays 2 = .ok (.invokevirtual 117, 3) := by decide +kernel
theorem dX6_goodWays_5 : decode cX6_goodWays 5 = .ok (.aload_n 0, 1) := by decide +kernel
theorem dX6_goodWays_6 : decode cX6_goodWays 6 = .ok (.iload_n 1, 1) := by decide +kernel
theorem dX6_goodWays_7 : decode cX6_goodWays 7 = .ok (.aload_n 2, 1) := by decide +kernel
theorem dX6_goodWays_8 : decode cX6_goodWays 8 = .ok (.invokevirtual 124, 3) := by decide +kernel
theorem dX6_goodWays_11 : decode cX6_goodWays 11 = .ok (.ireturn, 1) := by decide +kernel
theorem dX6_isBrought_0 : decode cX6_isBrought 0 = .ok (.iconst 0, 1) := by decide +kernel
theorem dX6_isBrought_1 : decode cX6_isBrought 1 = .ok (.istore 4, 2) := by decide +kernel
theorem dX6_isBrought_3 : decode cX6_isBrought 3 = .ok (.iconst 1, 1) := by decide +kernel
theorem dX6_isBrought_4 : decode cX6_isBrought 4 = .ok (.istore 5, 2) := by decide +kernel
theorem dX6_isBrought_6 : decode cX6_isBrought 6 = .ok (.iconst 0, 1) := by decide +kernel
theorem dX6_isBrought_7 : decode cX6_isBrought 7 = .ok (.istore 6, 2) := by decide +kernel
theorem dX6_isBrought_9 : decode cX6_isBrought 9 = .ok (.iload 6, 2) := by decide +kernel
theorem dX6_isBrought_11 : decode cX6_isBrought 11 = .ok (.aload_n 0, 1) := by decide +kernel
theorem dX6_isBrought_12 : decode cX6_isBrought 12 = .ok (.getfield 19, 3) := by decide +kernel
theorem dX6_isBrought_15 : decode cX6_isBrought 15 = .ok (.getfield 68, 3) := by decide +kernel
theorem dX6_isBrought_18 : decode cX6_isBrought 18 = .ok (.iload_n 1, 1) := by decide +kernel
theorem dX6_isBrought_19 : decode cX6_isBrought 19 = .ok (.iaload, 1) := by decide +kernel
theorem dX6_isBrought_20 : decode cX6_isBrought 20 = .ok (.if_icmp .ge 113, 3) := by decide +kernel
theorem dX6_isBrought_23 : decode cX6_isBrought 23 = .ok (.aload_n 0, 1) := by decide +kernel
theorem dX6_isBrought_24 : decode cX6_isBrought 24 = .ok (.getfield 19, 3) := by decide +kernel
theorem dX6_isBrought_27 : decode cX6_isBrought 27 = .ok (.iload_n 1, 1) := by decide +kernel
theorem dX6_isBrought_28 : decode cX6_isBrought 28 = .ok (.iload 6, 2) := by decide +kernel
theorem dX6_isBrought_30 : decode cX6_isBrought 30 = .ok (.invokevirtual 76, 3) := by decide +kernel
theorem dX6_isBrought_33 : decode cX6_isBrought 33 = .ok (.istore 7, 2) := by decide +kernel
theorem dX6_isBrought_35 : decode cX6_isBrought 35 = .ok (.iload_n 2, 1) := by decide +kernel
theorem dX6_isBrought_36 : decode cX6_isBrought 36 = .ok (.iload 7, 2) := by decide +kernel
theorem dX6_isBrought_38 : decode cX6_isBrought 38 = .ok (.ishr, 1) := by decide +kernel
theorem dX6_isBrought_39 : decode cX6_isBrought 39 = .ok (.iconst 1, 1) := by decide +kernel
theorem dX6_isBrought_40 : decode cX6_isBrought 40 = .ok (.iand, 1) := by decide +kernel
theorem dX6_isBrought_41 : decode cX6_isBrought 41 = .ok (.ifCond .eq 7, 3) := by decide +kernel
theorem dX6_isBrought_44 : decode cX6_isBrought 44 = .ok (.iconst 1, 1) := by decide +kernel
theorem dX6_isBrought_45 : decode cX6_isBrought 45 = .ok (.goto 4, 3) := by decide +kernel
theorem dX6_isBrought_48 : decode cX6_isBrought 48 = .ok (.iconst 0, 1) := by decide +kernel
theorem dX6_isBrought_49 : decode cX6_isBrought 49 = .ok (.istore 8, 2) := by decide +kernel
theorem dX6_isBrought_51 : decode cX6_isBrought 51 = .ok (.aload_n 0, 1) := by decide +kernel
theorem dX6_isBrought_52 : decode cX6_isBrought 52 = .ok (.getfield 19, 3) := by decide +kernel
theorem dX6_isBrought_55 : decode cX6_isBrought 55 = .ok (.getfield 61, 3) := by decide +kernel
theorem dX6_isBrought_58 : decode cX6_isBrought 58 = .ok (.iload_n 1, 1) := by decide +kernel
theorem dX6_isBrought_59 : decode cX6_isBrought 59 = .ok (.iaload, 1) := by decide +kernel
theorem dX6_isBrought_60 : decode cX6_isBrought 60 = .ok (.iconst 3, 1) := by decide +kernel
theorem dX6_isBrought_61 : decode cX6_isBrought 61 = .ok (.if_icmp .ne 38, 3) := by decide +kernel
theorem dX6_isBrought_64 : decode cX6_isBrought 64 = .ok (.iload 4, 2) := by decide +kernel
theorem dX6_isBrought_66 : decode cX6_isBrought 66 = .ok (.iload 8, 2) := by decide +kernel
theorem dX6_isBrought_68 : decode cX6_isBrought 68 = .ok (.ifCond .ne 20, 3) := by decide +kernel
theorem dX6_isBrought_71 : decode cX6_isBrought 71 = .ok (.aload_n 3, 1) := by decide +kernel
theorem dX6_isBrought_72 : decode cX6_isBrought 72 = .ok (.getfield 71, 3) := by decide +kernel
theorem dX6_isBrought_75 : decode cX6_isBrought 75 = .ok (.iload 7, 2) := by decide +kernel
theorem dX6_isBrought_77 : decode cX6_isBrought 77 = .ok (.laload, 1) := by decide +kernel
theorem dX6_isBrought_78 : decode cX6_isBrought 78 = .ok (.aload_n 3, 1) := by decide +kernel
theorem dX6_isBrought_79 : decode cX6_isBrought 79 = .ok (.getfield 71, 3) := by decide +kernel
theorem dX6_isBrought_82 : decode cX6_isBrought 82 = .ok (.iload_n 1, 1) := by decide +kernel
theorem dX6_isBrought_83 : decode cX6_isBrought 83 = .ok (.laload, 1) := by decide +kernel
theorem dX6_isBrought_84 : decode cX6_isBrought 84 = .ok (.lcmp, 1) := by decide +kernel
theorem dX6_isBrought_85 : decode cX6_isBrought 85 = .ok (.ifCond .eq 7, 3) := by decide +kernel
theorem dX6_isBrought_88 : decode cX6_isBrought 88 = .ok (.iconst 1, 1) := by decide +kernel
theorem dX6_isBrought_89 : decode cX6_isBrought 89 = .ok (.goto 4, 3) := by decide +kernel
theorem dX6_isBrought_92 : decode cX6_isBrought 92 = .ok (.iconst 0, 1) := by decide +kernel
theorem dX6_isBrought_93 : decode cX6_isBrought 93 = .ok (.ior, 1) := by decide +kernel
theorem dX6_isBrought_94 : decode cX6_isBrought 94 = .ok (.istore 4, 2) := by decide +kernel
theorem dX6_isBrought_96 : decode cX6_isBrought 96 = .ok (.goto 31, 3) := by decide +kernel
theorem dX6_isBrought_99 : decode cX6_isBrought 99 = .ok (.aload_n 0, 1) := by decide +kernel
theorem dX6_isBrought_100 : decode cX6_isBrought 100 = .ok (.getfield 9, 3) := by decide +kernel
theorem dX6_isBrought_103 : decode cX6_isBrought 103 = .ok (.iload_n 1, 1) := by decide +kernel
theorem dX6_isBrought_104 : decode cX6_isBrought 104 = .ok (.iaload, 1) := by decide +kernel
theorem dX6_isBrought_105 : decode cX6_isBrought 105 = .ok (.iload 6, 2) := by decide +kernel
theorem dX6_isBrought_107 : decode cX6_isBrought 107 = .ok (.ishr, 1) := by decide +kernel
theorem dX6_isBrought_108 : decode cX6_isBrought 108 = .ok (.iconst 1, 1) := by decide +kernel
theorem dX6_isBrought_109 : decode cX6_isBrought 109 = .ok (.iand, 1) := by decide +kernel
theorem dX6_isBrought_110 : decode cX6_isBrought 110 = .ok (.ifCond .eq 17, 3) := by decide +kernel
theorem dX6_isBrought_113 : decode cX6_isBrought 113 = .ok (.iload 4, 2) := by decide +kernel
theorem dX6_isBrought_115 : decode cX6_isBrought 115 = .ok (.iload 8, 2) := by decide +kernel
theorem dX6_isBrought_117 : decode cX6_isBrought 117 = .ok (.ior, 1) := by decide +kernel
theorem dX6_isBrought_118 : decode cX6_isBrought 118 = .ok (.istore 4, 2) := by decide +kernel
theorem dX6_isBrought_120 : decode cX6_isBrought 120 = .ok (.iload 5, 2) := by decide +kernel
theorem dX6_isBrought_122 : decode cX6_isBrought 122 = .ok (.iload 8, 2) := by decide +kernel
theorem dX6_isBrought_124 : decode cX6_isBrought 124 = .ok (.iand, 1) := by decide +kernel
theorem dX6_isBrought_125 : decode cX6_isBrought 125 = .ok (.istore 5, 2) := by decide +kernel
theorem dX6_isBrought_127 : decode cX6_isBrought 127 = .ok (.iinc 6 1, 3) := by decide +kernel
theorem dX6_isBrought_130 : decode cX6_isBrought 130 = .ok (.goto (-121), 3) := by decide +kernel
theorem dX6_isBrought_133 : decode cX6_isBrought 133 = .ok (.aload_n 0, 1) := by decide +kernel
theorem dX6_isBrought_134 : decode cX6_isBrought 134 = .ok (.getfield 19, 3) := by decide +kernel
theorem dX6_isBrought_137 : decode cX6_isBrought 137 = .ok (.getfield 61, 3) := by decide +kernel
theorem dX6_isBrought_140 : decode cX6_isBrought 140 = .ok (.iload_n 1, 1) := by decide +kernel
theorem dX6_isBrought_141 : decode cX6_isBrought 141 = .ok (.iaload, 1) := by decide +kernel
theorem dX6_isBrought_142 : decode cX6_isBrought 142 = .ok (.iconst 2, 1) := by decide +kernel
theorem dX6_isBrought_143 : decode cX6_isBrought 143 = .ok (.if_icmp .ne 21, 3) := by decide +kernel
theorem dX6_isBrought_146 : decode cX6_isBrought 146 = .ok (.iload 4, 2) := by decide +kernel
theorem dX6_isBrought_148 : decode cX6_isBrought 148 = .ok (.ifCond .eq 12, 3) := by decide +kernel
theorem dX6_isBrought_151 : decode cX6_isBrought 151 = .ok (.iload 5, 2) := by decide +kernel
theorem dX6_isBrought_153 : decode cX6_isBrought 153 = .ok (.ifCond .eq 7, 3) := by decide +kernel
theorem dX6_isBrought_156 : decode cX6_isBrought 156 = .ok (.iconst 1, 1) := by decide +kernel
theorem dX6_isBrought_157 : decode cX6_isBrought 157 = .ok (.goto 9, 3) := by decide +kernel
theorem dX6_isBrought_160 : decode cX6_isBrought 160 = .ok (.iconst 0, 1) := by decide +kernel
theorem dX6_isBrought_161 : decode cX6_isBrought 161 = .ok (.goto 5, 3) := by decide +kernel
theorem dX6_isBrought_164 : decode cX6_isBrought 164 = .ok (.iload 4, 2) := by decide +kernel
theorem dX6_isBrought_166 : decode cX6_isBrought 166 = .ok (.ireturn, 1) := by decide +kernel
theorem dX6_keepEven_0 : decode cX6_keepEven 0 = .ok (.iconst 0, 1) := by decide +kernel
theorem dX6_keepEven_1 : decode cX6_keepEven 1 = .ok (.istore_n 2, 1) := by decide +kernel
theorem dX6_keepEven_2 : decode cX6_keepEven 2 = .ok (.iload_n 2, 1) := by decide +kernel
theorem dX6_keepEven_3 : decode cX6_keepEven 3 = .ok (.aload_n 0, 1) := by decide +kernel
theorem dX6_keepEven_4 : decode cX6_keepEven 4 = .ok (.getfield 19, 3) := by decide +kernel
theorem dX6_keepEven_7 : decode cX6_keepEven 7 = .ok (.getfield 32, 3) := by decide +kernel
theorem dX6_keepEven_10 : decode cX6_keepEven 10 = .ok (.if_icmp .ge 85, 3) := by decide +kernel
theorem dX6_keepEven_13 : decode cX6_keepEven 13 = .ok (.aload_n 0, 1) := by decide +kernel
theorem dX6_keepEven_14 : decode cX6_keepEven 14 = .ok (.getfield 9, 3) := by decide +kernel
theorem dX6_keepEven_17 : decode cX6_keepEven 17 = .ok (.iload_n 2, 1) := by decide +kernel
theorem dX6_keepEven_18 : decode cX6_keepEven 18 = .ok (.iconst 0, 1) := by decide +kernel
theorem dX6_keepEven_19 : decode cX6_keepEven 19 = .ok (.iastore, 1) := by decide +kernel
theorem dX6_keepEven_20 : decode cX6_keepEven 20 = .ok (.iconst 0, 1) := by decide +kernel
theorem dX6_keepEven_21 : decode cX6_keepEven 21 = .ok (.istore_n 3, 1) := by decide +kernel
theorem dX6_keepEven_22 : decode cX6_keepEven 22 = .ok (.iload_n 3, 1) := by decide +kernel
theorem dX6_keepEven_23 : decode cX6_keepEven 23 = .ok (.aload_n 0, 1) := by decide +kernel
theorem dX6_keepEven_24 : decode cX6_keepEven 24 = .ok (.getfield 19, 3) := by decide +kernel
theorem dX6_keepEven_27 : decode cX6_keepEven 27 = .ok (.getfield 68, 3) := by decide +kernel
theorem dX6_keepEven_30 : decode cX6_keepEven 30 = .ok (.iload_n 2, 1) := by decide +kernel
theorem dX6_keepEven_31 : decode cX6_keepEven 31 = .ok (.iaload, 1) := by decide +kernel
theorem dX6_keepEven_32 : decode cX6_keepEven 32 = .ok (.if_icmp .ge 57, 3) := by decide +kernel
theorem dX6_keepEven_35 : decode cX6_keepEven 35 = .ok (.aload_n 0, 1) := by decide +kernel
theorem dX6_keepEven_36 : decode cX6_keepEven 36 = .ok (.getfield 19, 3) := by decide +kernel
theorem dX6_keepEven_39 : decode cX6_keepEven 39 = .ok (.iload_n 2, 1) := by decide +kernel
theorem dX6_keepEven_40 : decode cX6_keepEven 40 = .ok (.iload_n 3, 1) := by decide +kernel
theorem dX6_keepEven_41 : decode cX6_keepEven 41 = .ok (.invokevirtual 128, 3) := by decide +kernel
theorem dX6_keepEven_44 : decode cX6_keepEven 44 = .ok (.ifCond .eq 39, 3) := by decide +kernel
theorem dX6_keepEven_47 : decode cX6_keepEven 47 = .ok (.aload_n 1, 1) := by decide +kernel
theorem dX6_keepEven_48 : decode cX6_keepEven 48 = .ok (.getfield 71, 3) := by decide +kernel
theorem dX6_keepEven_51 : decode cX6_keepEven 51 = .ok (.aload_n 0, 1) := by decide +kernel
theorem dX6_keepEven_52 : decode cX6_keepEven 52 = .ok (.getfield 19, 3) := by decide +kernel
theorem dX6_keepEven_55 : decode cX6_keepEven 55 = .ok (.iload_n 2, 1) := by decide +kernel
theorem dX6_keepEven_56 : decode cX6_keepEven 56 = .ok (.iload_n 3, 1) := by decide +kernel
theorem dX6_keepEven_57 : decode cX6_keepEven 57 = .ok (.invokevirtual 76, 3) := by decide +kernel
theorem dX6_keepEven_60 : decode cX6_keepEven 60 = .ok (.laload, 1) := by decide +kernel
theorem dX6_keepEven_61 : decode cX6_keepEven 61 = .ok (.aload_n 1, 1) := by decide +kernel
theorem dX6_keepEven_62 : decode cX6_keepEven 62 = .ok (.getfield 71, 3) := by decide +kernel
theorem dX6_keepEven_65 : decode cX6_keepEven 65 = .ok (.iload_n 2, 1) := by decide +kernel
theorem dX6_keepEven_66 : decode cX6_keepEven 66 = .ok (.laload, 1) := by decide +kernel
theorem dX6_keepEven_67 : decode cX6_keepEven 67 = .ok (.lcmp, 1) := by decide +kernel
theorem dX6_keepEven_68 : decode cX6_keepEven 68 = .ok (.ifCond .ne 15, 3) := by decide +kernel
theorem dX6_keepEven_71 : decode cX6_keepEven 71 = .ok (.aload_n 0, 1) := by decide +kernel
theorem dX6_keepEven_72 : decode cX6_keepEven 72 = .ok (.getfield 9, 3) := by decide +kernel
theorem dX6_keepEven_75 : decode cX6_keepEven 75 = .ok (.iload_n 2, 1) := by decide +kernel
theorem dX6_keepEven_76 : decode cX6_keepEven 76 = .ok (.dup2, 1) := by decide +kernel
theorem dX6_keepEven_77 : decode cX6_keepEven 77 = .ok (.iaload, 1) := by decide +kernel
theorem dX6_keepEven_78 : decode cX6_keepEven 78 = .ok (.iconst 1, 1) := by decide +kernel
theorem dX6_keepEven_79 : decode cX6_keepEven 79 = .ok (.iload_n 3, 1) := by decide +kernel
theorem dX6_keepEven_80 : decode cX6_keepEven 80 = .ok (.ishl, 1) := by decide +kernel
theorem dX6_keepEven_81 : decode cX6_keepEven 81 = .ok (.ior, 1) := by decide +kernel
theorem dX6_keepEven_82 : decode cX6_keepEven 82 = .ok (.iastore, 1) := by decide +kernel
theorem dX6_keepEven_83 : decode cX6_keepEven 83 = .ok (.iinc 3 1, 3) := by decide +kernel
theorem dX6_keepEven_86 : decode cX6_keepEven 86 = .ok (.goto (-64), 3) := by decide +kernel
theorem dX6_keepEven_89 : decode cX6_keepEven 89 = .ok (.iinc 2 1, 3) := by decide +kernel
theorem dX6_keepEven_92 : decode cX6_keepEven 92 = .ok (.goto (-90), 3) := by decide +kernel
theorem dX6_keepEven_95 : decode cX6_keepEven 95 = .ok (.return_, 1) := by decide +kernel
theorem dX6_lowest_0 : decode cX6_lowest 0 = .ok (.iconst 0, 1) := by decide +kernel
theorem dX6_lowest_1 : decode cX6_lowest 1 = .ok (.istore_n 1, 1) := by decide +kernel
theorem dX6_lowest_2 : decode cX6_lowest 2 = .ok (.iload_n 1, 1) := by decide +kernel
theorem dX6_lowest_3 : decode cX6_lowest 3 = .ok (.iconst 3, 1) := by decide +kernel
theorem dX6_lowest_4 : decode cX6_lowest 4 = .ok (.if_icmp .ge 19, 3) := by decide +kernel
theorem dX6_lowest_7 : decode cX6_lowest 7 = .ok (.iload_n 0, 1) := by decide +kernel
theorem dX6_lowest_8 : decode cX6_lowest 8 = .ok (.iload_n 1, 1) := by decide +kernel
theorem dX6_lowest_9 : decode cX6_lowest 9 = .ok (.ishr, 1) := by decide +kernel
theorem dX6_lowest_10 : decode cX6_lowest 10 = .ok (.iconst 1, 1) := by decide +kernel
theorem dX6_lowest_11 : decode cX6_lowest 11 = .ok (.iand, 1) := by decide +kernel
theorem dX6_lowest_12 : decode cX6_lowest 12 = .ok (.ifCond .eq 5, 3) := by decide +kernel
theorem dX6_lowest_15 : decode cX6_lowest 15 = .ok (.iload_n 1, 1) := by decide +kernel
theorem dX6_lowest_16 : decode cX6_lowest 16 = .ok (.ireturn, 1) := by decide +kernel
theorem dX6_lowest_17 : decode cX6_lowest 17 = .ok (.iinc 1 1, 3) := by decide +kernel
theorem dX6_lowest_20 : decode cX6_lowest 20 = .ok (.goto (-18), 3) := by decide +kernel
theorem dX6_lowest_23 : decode cX6_lowest 23 = .ok (.iconst 0, 1) := by decide +kernel
theorem dX6_lowest_24 : decode cX6_lowest 24 = .ok (.ireturn, 1) := by decide +kernel
theorem dX6_oneMoveMore_0 : decode cX6_oneMoveMore 0 = .ok (.aload_n 0, 1) := by decide +kernel
theorem dX6_oneMoveMore_1 : decode cX6_oneMoveMore 1 = .ok (.getfield 19, 3) := by decide +kernel
theorem dX6_oneMoveMore_4 : decode cX6_oneMoveMore 4 = .ok (.getfield 61, 3) := by decide +kernel
theorem dX6_oneMoveMore_7 : decode cX6_oneMoveMore 7 = .ok (.iload_n 1, 1) := by decide +kernel
theorem dX6_oneMoveMore_8 : decode cX6_oneMoveMore 8 = .ok (.iaload, 1) := by decide +kernel
theorem dX6_oneMoveMore_9 : decode cX6_oneMoveMore 9 = .ok (.ifCond .ne 14, 3) := by decide +kernel
theorem dX6_oneMoveMore_12 : decode cX6_oneMoveMore 12 = .ok (.ldc2_w 109, 3) := by decide +kernel
theorem dX6_oneMoveMore_15 : decode cX6_oneMoveMore 15 = .ok (.aload_n 2, 1) := by decide +kernel
theorem dX6_oneMoveMore_16 : decode cX6_oneMoveMore 16 = .ok (.getfield 71, 3) := by decide +kernel
theorem dX6_oneMoveMore_19 : decode cX6_oneMoveMore 19 = .ok (.iload_n 1, 1) := by decide +kernel
theorem dX6_oneMoveMore_20 : decode cX6_oneMoveMore 20 = .ok (.laload, 1) := by decide +kernel
theorem dX6_oneMoveMore_21 : decode cX6_oneMoveMore 21 = .ok (.lmul, 1) := by decide +kernel
theorem dX6_oneMoveMore_22 : decode cX6_oneMoveMore 22 = .ok (.lreturn, 1) := by decide +kernel
theorem dX6_oneMoveMore_23 : decode cX6_oneMoveMore 23 = .ok (.aload_n 0, 1) := by decide +kernel
theorem dX6_oneMoveMore_24 : decode cX6_oneMoveMore 24 = .ok (.getfield 19, 3) := by decide +kernel
theorem dX6_oneMoveMore_27 : decode cX6_oneMoveMore 27 = .ok (.getfield 61, 3) := by decide +kernel
theorem dX6_oneMoveMore_30 : decode cX6_oneMoveMore 30 = .ok (.iload_n 1, 1) := by decide +kernel
theorem dX6_oneMoveMore_31 : decode cX6_oneMoveMore 31 = .ok (.iaload, 1) := by decide +kernel
theorem dX6_oneMoveMore_32 : decode cX6_oneMoveMore 32 = .ok (.iconst 3, 1) := by decide +kernel
theorem dX6_oneMoveMore_33 : decode cX6_oneMoveMore 33 = .ok (.if_icmp .eq 76, 3) := by decide +kernel
theorem dX6_oneMoveMore_36 : decode cX6_oneMoveMore 36 = .ok (.aload_n 0, 1) := by decide +kernel
theorem dX6_oneMoveMore_37 : decode cX6_oneMoveMore 37 = .ok (.getfield 19, 3) := by decide +kernel
theorem dX6_oneMoveMore_40 : decode cX6_oneMoveMore 40 = .ok (.getfield 38, 3) := by decide +kernel
theorem dX6_oneMoveMore_43 : decode cX6_oneMoveMore 43 = .ok (.iload_n 1, 1) := by decide +kernel
theorem dX6_oneMoveMore_44 : decode cX6_oneMoveMore 44 = .ok (.iaload, 1) := by decide +kernel
theorem dX6_oneMoveMore_45 : decode cX6_oneMoveMore 45 = .ok (.iconst (-1), 1) := by decide +kernel
theorem dX6_oneMoveMore_46 : decode cX6_oneMoveMore 46 = .ok (.if_icmp .ne 7, 3) := by decide +kernel
theorem dX6_oneMoveMore_49 : decode cX6_oneMoveMore 49 = .ok (.iconst 0, 1) := by decide +kernel
theorem dX6_oneMoveMore_50 : decode cX6_oneMoveMore 50 = .ok (.goto 12, 3) := by decide +kernel
theorem dX6_oneMoveMore_53 : decode cX6_oneMoveMore 53 = .ok (.aload_n 0, 1) := by decide +kernel
theorem dX6_oneMoveMore_54 : decode cX6_oneMoveMore 54 = .ok (.getfield 19, 3) := by decide +kernel
theorem dX6_oneMoveMore_57 : decode cX6_oneMoveMore 57 = .ok (.getfield 38, 3) := by decide +kernel
theorem dX6_oneMoveMore_60 : decode cX6_oneMoveMore 60 = .ok (.iload_n 1, 1) := by decide +kernel
theorem dX6_oneMoveMore_61 : decode cX6_oneMoveMore 61 = .ok (.iaload, 1) := by decide +kernel
theorem dX6_oneMoveMore_62 : decode cX6_oneMoveMore 62 = .ok (.istore_n 3, 1) := by decide +kernel
theorem dX6_oneMoveMore_63 : decode cX6_oneMoveMore 63 = .ok (.aload_n 0, 1) := by decide +kernel
theorem dX6_oneMoveMore_64 : decode cX6_oneMoveMore 64 = .ok (.getfield 19, 3) := by decide +kernel
theorem dX6_oneMoveMore_67 : decode cX6_oneMoveMore 67 = .ok (.getfield 38, 3) := by decide +kernel
theorem dX6_oneMoveMore_70 : decode cX6_oneMoveMore 70 = .ok (.iload_n 1, 1) := by decide +kernel
theorem dX6_oneMoveMore_71 : decode cX6_oneMoveMore 71 = .ok (.iaload, 1) := by decide +kernel
theorem dX6_oneMoveMore_72 : decode cX6_oneMoveMore 72 = .ok (.iconst (-1), 1) := by decide +kernel
theorem dX6_oneMoveMore_73 : decode cX6_oneMoveMore 73 = .ok (.if_icmp .ne 13, 3) := by decide +kernel
theorem dX6_oneMoveMore_76 : decode cX6_oneMoveMore 76 = .ok (.aload_n 0, 1) := by decide +kernel
theorem dX6_oneMoveMore_77 : decode cX6_oneMoveMore 77 = .ok (.iload_n 1, 1) := by decide +kernel
theorem dX6_oneMoveMore_78 : decode cX6_oneMoveMore 78 = .ok (.iload_n 3, 1) := by decide +kernel
theorem dX6_oneMoveMore_79 : decode cX6_oneMoveMore 79 = .ok (.aload_n 2, 1) := by decide +kernel
theorem dX6_oneMoveMore_80 : decode cX6_oneMoveMore 80 = .ok (.invokevirtual 64, 3) := by decide +kernel
theorem dX6_oneMoveMore_83 : decode cX6_oneMoveMore 83 = .ok (.goto 4, 3) := by decide +kernel
theorem dX6_oneMoveMore_86 : decode cX6_oneMoveMore 86 = .ok (.iload_n 3, 1) := by decide +kernel
theorem dX6_oneMoveMore_87 : decode cX6_oneMoveMore 87 = .ok (.istore 4, 2) := by decide +kernel
theorem dX6_oneMoveMore_89 : decode cX6_oneMoveMore 89 = .ok (.ldc2_w 109, 3) := by decide +kernel
theorem dX6_oneMoveMore_92 : decode cX6_oneMoveMore 92 = .ok (.aload_n 2, 1) := by decide +kernel
theorem dX6_oneMoveMore_93 : decode cX6_oneMoveMore 93 = .ok (.getfield 71, 3) := by decide +kernel
theorem dX6_oneMoveMore_96 : decode cX6_oneMoveMore 96 = .ok (.aload_n 0, 1) := by decide +kernel
theorem dX6_oneMoveMore_97 : decode cX6_oneMoveMore 97 = .ok (.getfield 19, 3) := by decide +kernel
theorem dX6_oneMoveMore_100 : decode cX6_oneMoveMore 100 = .ok (.iload_n 1, 1) := by decide +kernel
theorem dX6_oneMoveMore_101 : decode cX6_oneMoveMore 101 = .ok (.iload 4, 2) := by decide +kernel
theorem dX6_oneMoveMore_103 : decode cX6_oneMoveMore 103 = .ok (.invokevirtual 76, 3) := by decide +kernel
theorem dX6_oneMoveMore_106 : decode cX6_oneMoveMore 106 = .ok (.laload, 1) := by decide +kernel
theorem dX6_oneMoveMore_107 : decode cX6_oneMoveMore 107 = .ok (.lmul, 1) := by decide +kernel
theorem dX6_oneMoveMore_108 : decode cX6_oneMoveMore 108 = .ok (.lreturn, 1) := by decide +kernel
theorem dX6_oneMoveMore_109 : decode cX6_oneMoveMore 109 = .ok (.lconst 0, 1) := by decide +kernel
theorem dX6_oneMoveMore_110 : decode cX6_oneMoveMore 110 = .ok (.lstore_n 3, 1) := by decide +kernel
theorem dX6_oneMoveMore_111 : decode cX6_oneMoveMore 111 = .ok (.iconst 0, 1) := by decide +kernel
theorem dX6_oneMoveMore_112 : decode cX6_oneMoveMore 112 = .ok (.istore 5, 2) := by decide +kernel
theorem dX6_oneMoveMore_114 : decode cX6_oneMoveMore 114 = .ok (.iload 5, 2) := by decide +kernel
theorem dX6_oneMoveMore_116 : decode cX6_oneMoveMore 116 = .ok (.aload_n 0, 1) := by decide +kernel
theorem dX6_oneMoveMore_117 : decode cX6_oneMoveMore 117 = .ok (.getfield 19, 3) := by decide +kernel
theorem dX6_oneMoveMore_120 : decode cX6_oneMoveMore 120 = .ok (.getfield 68, 3) := by decide +kernel
theorem dX6_oneMoveMore_123 : decode cX6_oneMoveMore 123 = .ok (.iload_n 1, 1) := by decide +kernel
theorem dX6_oneMoveMore_124 : decode cX6_oneMoveMore 124 = .ok (.iaload, 1) := by decide +kernel
theorem dX6_oneMoveMore_125 : decode cX6_oneMoveMore 125 = .ok (.if_icmp .ge 39, 3) := by decide +kernel
theorem dX6_oneMoveMore_128 : decode cX6_oneMoveMore 128 = .ok (.lload_n 3, 1) := by decide +kernel
theorem dX6_oneMoveMore_129 : decode cX6_oneMoveMore 129 = .ok (.aload_n 0, 1) := by decide +kernel
theorem dX6_oneMoveMore_130 : decode cX6_oneMoveMore 130 = .ok (.getfield 19, 3) := by decide +kernel
theorem dX6_oneMoveMore_133 : decode cX6_oneMoveMore 133 = .ok (.iload_n 1, 1) := by decide +kernel
theorem dX6_oneMoveMore_134 : decode cX6_oneMoveMore 134 = .ok (.iload 5, 2) := by decide +kernel
theorem dX6_oneMoveMore_136 : decode cX6_oneMoveMore 136 = .ok (.invokevirtual 111, 3) := by decide +kernel
theorem dX6_oneMoveMore_139 : decode cX6_oneMoveMore 139 = .ok (.i2l, 1) := by decide +kernel
theorem dX6_oneMoveMore_140 : decode cX6_oneMoveMore 140 = .ok (.aload_n 2, 1) := by decide +kernel
theorem dX6_oneMoveMore_141 : decode cX6_oneMoveMore 141 = .ok (.getfield 71, 3) := by decide +kernel
theorem dX6_oneMoveMore_144 : decode cX6_oneMoveMore 144 = .ok (.aload_n 0, 1) := by decide +kernel
theorem dX6_oneMoveMore_145 : decode cX6_oneMoveMore 145 = .ok (.getfield 19, 3) := by decide +kernel
theorem dX6_oneMoveMore_148 : decode cX6_oneMoveMore 148 = .ok (.iload_n 1, 1) := by decide +kernel
theorem dX6_oneMoveMore_149 : decode cX6_oneMoveMore 149 = .ok (.iload 5, 2) := by decide +kernel
theorem dX6_oneMoveMore_151 : decode cX6_oneMoveMore 151 = .ok (.invokevirtual 76, 3) := by decide +kernel
theorem dX6_oneMoveMore_154 : decode cX6_oneMoveMore 154 = .ok (.laload, 1) := by decide +kernel
theorem dX6_oneMoveMore_155 : decode cX6_oneMoveMore 155 = .ok (.lmul, 1) := by decide +kernel
theorem dX6_oneMoveMore_156 : decode cX6_oneMoveMore 156 = .ok (.ladd, 1) := by decide +kernel
theorem dX6_oneMoveMore_157 : decode cX6_oneMoveMore 157 = .ok (.lstore_n 3, 1) := by decide +kernel
theorem dX6_oneMoveMore_158 : decode cX6_oneMoveMore 158 = .ok (.iinc 5 1, 3) := by decide +kernel
theorem dX6_oneMoveMore_161 : decode cX6_oneMoveMore 161 = .ok (.goto (-47), 3) := by decide +kernel
theorem dX6_oneMoveMore_164 : decode cX6_oneMoveMore 164 = .ok (.aload_n 0, 1) := by decide +kernel
theorem dX6_oneMoveMore_165 : decode cX6_oneMoveMore 165 = .ok (.getfield 19, 3) := by decide +kernel
theorem dX6_oneMoveMore_168 : decode cX6_oneMoveMore 168 = .ok (.iload_n 1, 1) := by decide +kernel
theorem dX6_oneMoveMore_169 : decode cX6_oneMoveMore 169 = .ok (.invokevirtual 114, 3) := by decide +kernel
theorem dX6_oneMoveMore_172 : decode cX6_oneMoveMore 172 = .ok (.istore 5, 2) := by decide +kernel
theorem dX6_oneMoveMore_174 : decode cX6_oneMoveMore 174 = .ok (.iload 5, 2) := by decide +kernel
theorem dX6_oneMoveMore_176 : decode cX6_oneMoveMore 176 = .ok (.ifCond .ne 7, 3) := by decide +kernel
theorem dX6_oneMoveMore_179 : decode cX6_oneMoveMore 179 = .ok (.lconst 0, 1) := by decide +kernel
theorem dX6_oneMoveMore_180 : decode cX6_oneMoveMore 180 = .ok (.goto 11, 3) := by decide +kernel
theorem dX6_oneMoveMore_183 : decode cX6_oneMoveMore 183 = .ok (.bipush 12, 2) := by decide +kernel
theorem dX6_oneMoveMore_185 : decode cX6_oneMoveMore 185 = .ok (.iload 5, 2) := by decide +kernel
theorem dX6_oneMoveMore_187 : decode cX6_oneMoveMore 187 = .ok (.idiv, 1) := by decide +kernel
theorem dX6_oneMoveMore_188 : decode cX6_oneMoveMore 188 = .ok (.i2l, 1) := by decide +kernel
theorem dX6_oneMoveMore_189 : decode cX6_oneMoveMore 189 = .ok (.lload_n 3, 1) := by decide +kernel
theorem dX6_oneMoveMore_190 : decode cX6_oneMoveMore 190 = .ok (.lmul, 1) := by decide +kernel
theorem dX6_oneMoveMore_191 : decode cX6_oneMoveMore 191 = .ok (.lreturn, 1) := by decide +kernel
theorem dX6_turn_0 : decode cX6_turn 0 = .ok (.aload_n 0, 1) := by decide +kernel
theorem dX6_turn_1 : decode cX6_turn 1 = .ok (.iload_n 1, 1) := by decide +kernel
theorem dX6_turn_2 : decode cX6_turn 2 = .ok (.aload_n 2, 1) := by decide +kernel
theorem dX6_turn_3 : decode cX6_turn 3 = .ok (.aload_n 3, 1) := by decide +kernel
theorem dX6_turn_4 : decode cX6_turn 4 = .ok (.iconst (-1), 1) := by decide +kernel
theorem dX6_turn_5 : decode cX6_turn 5 = .ok (.invokevirtual 49, 3) := by decide +kernel
theorem dX6_turn_8 : decode cX6_turn 8 = .ok (.ireturn, 1) := by decide +kernel
theorem dX6_turnOpen_0 : decode cX6_turnOpen 0 = .ok (.iconst 0, 1) := by decide +kernel
theorem dX6_turnOpen_1 : decode cX6_turnOpen 1 = .ok (.istore 5, 2) := by decide +kernel
theorem dX6_turnOpen_3 : decode cX6_turnOpen 3 = .ok (.iconst 0, 1) := by decide +kernel
theorem dX6_turnOpen_4 : decode cX6_turnOpen 4 = .ok (.istore 6, 2) := by decide +kernel
theorem dX6_turnOpen_6 : decode cX6_turnOpen 6 = .ok (.iload 6, 2) := by decide +kernel
theorem dX6_turnOpen_8 : decode cX6_turnOpen 8 = .ok (.aload_n 0, 1) := by decide +kernel
theorem dX6_turnOpen_9 : decode cX6_turnOpen 9 = .ok (.getfield 19, 3) := by decide +kernel
theorem dX6_turnOpen_12 : decode cX6_turnOpen 12 = .ok (.getfield 32, 3) := by decide +kernel
theorem dX6_turnOpen_15 : decode cX6_turnOpen 15 = .ok (.if_icmp .ge 78, 3) := by decide +kernel
theorem dX6_turnOpen_18 : decode cX6_turnOpen 18 = .ok (.aload_n 0, 1) := by decide +kernel
theorem dX6_turnOpen_19 : decode cX6_turnOpen 19 = .ok (.getfield 19, 3) := by decide +kernel
theorem dX6_turnOpen_22 : decode cX6_turnOpen 22 = .ok (.getfield 61, 3) := by decide +kernel
theorem dX6_turnOpen_25 : decode cX6_turnOpen 25 = .ok (.iload 6, 2) := by decide +kernel
theorem dX6_turnOpen_27 : decode cX6_turnOpen 27 = .ok (.iaload, 1) := by decide +kernel
theorem dX6_turnOpen_28 : decode cX6_turnOpen 28 = .ok (.iload_n 1, 1) := by decide +kernel
theorem dX6_turnOpen_29 : decode cX6_turnOpen 29 = .ok (.if_icmp .ne 58, 3) := by decide +kernel
theorem dX6_turnOpen_32 : decode cX6_turnOpen 32 = .ok (.aload_n 0, 1) := by decide +kernel
theorem dX6_turnOpen_33 : decode cX6_turnOpen 33 = .ok (.getfield 19, 3) := by decide +kernel
theorem dX6_turnOpen_36 : decode cX6_turnOpen 36 = .ok (.getfield 38, 3) := by decide +kernel
theorem dX6_turnOpen_39 : decode cX6_turnOpen 39 = .ok (.iload 6, 2) := by decide +kernel
theorem dX6_turnOpen_41 : decode cX6_turnOpen 41 = .ok (.iaload, 1) := by decide +kernel
theorem dX6_turnOpen_42 : decode cX6_turnOpen 42 = .ok (.iconst (-1), 1) := by decide +kernel
theorem dX6_turnOpen_43 : decode cX6_turnOpen 43 = .ok (.if_icmp .ne 44, 3) := by decide +kernel
theorem dX6_turnOpen_46 : decode cX6_turnOpen 46 = .ok (.iload 4, 2) := by decide +kernel
theorem dX6_turnOpen_48 : decode cX6_turnOpen 48 = .ok (.iload 6, 2) := by decide +kernel
theorem dX6_turnOpen_50 : decode cX6_turnOpen 50 = .ok (.ishr, 1) := by decide +kernel
theorem dX6_turnOpen_51 : decode cX6_turnOpen 51 = .ok (.iconst 1, 1) := by decide +kernel
theorem dX6_turnOpen_52 : decode cX6_turnOpen 52 = .ok (.iand, 1) := by decide +kernel
theorem dX6_turnOpen_53 : decode cX6_turnOpen 53 = .ok (.ifCond .eq 34, 3) := by decide +kernel
theorem dX6_turnOpen_56 : decode cX6_turnOpen 56 = .ok (.aload_n 0, 1) := by decide +kernel
theorem dX6_turnOpen_57 : decode cX6_turnOpen 57 = .ok (.iload 6, 2) := by decide +kernel
theorem dX6_turnOpen_59 : decode cX6_turnOpen 59 = .ok (.aload_n 2, 1) := by decide +kernel
theorem dX6_turnOpen_60 : decode cX6_turnOpen 60 = .ok (.iload 6, 2) := by decide +kernel
theorem dX6_turnOpen_62 : decode cX6_turnOpen 62 = .ok (.iaload, 1) := by decide +kernel
theorem dX6_turnOpen_63 : decode cX6_turnOpen 63 = .ok (.aload_n 3, 1) := by decide +kernel
theorem dX6_turnOpen_64 : decode cX6_turnOpen 64 = .ok (.invokevirtual 64, 3) := by decide +kernel
theorem dX6_turnOpen_67 : decode cX6_turnOpen 67 = .ok (.istore 7, 2) := by decide +kernel
theorem dX6_turnOpen_69 : decode cX6_turnOpen 69 = .ok (.iload 7, 2) := by decide +kernel
theorem dX6_turnOpen_71 : decode cX6_turnOpen 71 = .ok (.aload_n 2, 1) := by decide +kernel
theorem dX6_turnOpen_72 : decode cX6_turnOpen 72 = .ok (.iload 6, 2) := by decide +kernel
theorem dX6_turnOpen_74 : decode cX6_turnOpen 74 = .ok (.iaload, 1) := by decide +kernel
theorem dX6_turnOpen_75 : decode cX6_turnOpen 75 = .ok (.if_icmp .eq 12, 3) := by decide +kernel
theorem dX6_turnOpen_78 : decode cX6_turnOpen 78 = .ok (.aload_n 2, 1) := by decide +kernel
theorem dX6_turnOpen_79 : decode cX6_turnOpen 79 = .ok (.iload 6, 2) := by decide +kernel
theorem dX6_turnOpen_81 : decode cX6_turnOpen 81 = .ok (.iload 7, 2) := by decide +kernel
theorem dX6_turnOpen_83 : decode cX6_turnOpen 83 = .ok (.iastore, 1) := by decide +kernel
theorem dX6_turnOpen_84 : decode cX6_turnOpen 84 = .ok (.iinc 5 1, 3) := by decide +kernel
theorem dX6_turnOpen_87 : decode cX6_turnOpen 87 = .ok (.iinc 6 1, 3) := by decide +kernel
theorem dX6_turnOpen_90 : decode cX6_turnOpen 90 = .ok (.goto (-84), 3) := by decide +kernel
theorem dX6_turnOpen_93 : decode cX6_turnOpen 93 = .ok (.iload 5, 2) := by decide +kernel
theorem dX6_turnOpen_95 : decode cX6_turnOpen 95 = .ok (.ireturn, 1) := by decide +kernel
theorem dX6_unavoidable_0 : decode cX6_unavoidable 0 = .ok (.aload_n 0, 1) := by decide +kernel
theorem dX6_unavoidable_1 : decode cX6_unavoidable 1 = .ok (.getfield 19, 3) := by decide +kernel
theorem dX6_unavoidable_4 : decode cX6_unavoidable 4 = .ok (.invokevirtual 80, 3) := by decide +kernel
theorem dX6_unavoidable_7 : decode cX6_unavoidable 7 = .ok (.istore_n 2, 1) := by decide +kernel
theorem dX6_unavoidable_8 : decode cX6_unavoidable 8 = .ok (.iconst (-1), 1) := by decide +kernel
theorem dX6_unavoidable_9 : decode cX6_unavoidable 9 = .ok (.istore_n 3, 1) := by decide +kernel
theorem dX6_unavoidable_10 : decode cX6_unavoidable 10 = .ok (.iconst 0, 1) := by decide +kernel
theorem dX6_unavoidable_11 : decode cX6_unavoidable 11 = .ok (.istore 4, 2) := by decide +kernel
theorem dX6_unavoidable_13 : decode cX6_unavoidable 13 = .ok (.iload 4, 2) := by decide +kernel
theorem dX6_unavoidable_15 : decode cX6_unavoidable 15 = .ok (.bipush 12, 2) := by decide +kernel
theorem dX6_unavoidable_17 : decode cX6_unavoidable 17 = .ok (.if_icmp .ge 140, 3) := by decide +kernel
theorem dX6_unavoidable_20 : decode cX6_unavoidable 20 = .ok (.iload_n 2, 1) := by decide +kernel
theorem dX6_unavoidable_21 : decode cX6_unavoidable 21 = .ok (.iload_n 3, 1) := by decide +kernel
theorem dX6_unavoidable_22 : decode cX6_unavoidable 22 = .ok (.if_icmp .eq 135, 3) := by decide +kernel
theorem dX6_unavoidable_25 : decode cX6_unavoidable 25 = .ok (.iload_n 2, 1) := by decide +kernel
theorem dX6_unavoidable_26 : decode cX6_unavoidable 26 = .ok (.istore_n 3, 1) := by decide +kernel
theorem dX6_unavoidable_27 : decode cX6_unavoidable 27 = .ok (.iconst 0, 1) := by decide +kernel
theorem dX6_unavoidable_28 : decode cX6_unavoidable 28 = .ok (.istore 5, 2) := by decide +kernel
theorem dX6_unavoidable_30 : decode cX6_unavoidable 30 = .ok (.iload 5, 2) := by decide +kernel
theorem dX6_unavoidable_32 : decode cX6_unavoidable 32 = .ok (.aload_n 0, 1) := by decide +kernel
theorem dX6_unavoidable_33 : decode cX6_unavoidable 33 = .ok (.getfield 19, 3) := by decide +kernel
theorem dX6_unavoidable_36 : decode cX6_unavoidable 36 = .ok (.getfield 32, 3) := by decide +kernel
theorem dX6_unavoidable_39 : decode cX6_unavoidable 39 = .ok (.if_icmp .ge 112, 3) := by decide +kernel
theorem dX6_unavoidable_42 : decode cX6_unavoidable 42 = .ok (.aload_n 0, 1) := by decide +kernel
theorem dX6_unavoidable_43 : decode cX6_unavoidable 43 = .ok (.getfield 19, 3) := by decide +kernel
theorem dX6_unavoidable_46 : decode cX6_unavoidable 46 = .ok (.getfield 61, 3) := by decide +kernel
theorem dX6_unavoidable_49 : decode cX6_unavoidable 49 = .ok (.iload 5, 2) := by decide +kernel
theorem dX6_unavoidable_51 : decode cX6_unavoidable 51 = .ok (.iaload, 1) := by decide +kernel
theorem dX6_unavoidable_52 : decode cX6_unavoidable 52 = .ok (.iconst 2, 1) := by decide +kernel
theorem dX6_unavoidable_53 : decode cX6_unavoidable 53 = .ok (.if_icmp .ne 15, 3) := by decide +kernel
theorem dX6_unavoidable_56 : decode cX6_unavoidable 56 = .ok (.aload_n 0, 1) := by decide +kernel
theorem dX6_unavoidable_57 : decode cX6_unavoidable 57 = .ok (.getfield 19, 3) := by decide +kernel
theorem dX6_unavoidable_60 : decode cX6_unavoidable 60 = .ok (.iload 5, 2) := by decide +kernel
theorem dX6_unavoidable_62 : decode cX6_unavoidable 62 = .ok (.invokevirtual 84, 3) := by decide +kernel
theorem dX6_unavoidable_65 : decode cX6_unavoidable 65 = .ok (.goto 13, 3) := by decide +kernel
theorem dX6_unavoidable_68 : decode cX6_unavoidable 68 = .ok (.aload_n 0, 1) := by decide +kernel
theorem dX6_unavoidable_69 : decode cX6_unavoidable 69 = .ok (.getfield 28, 3) := by decide +kernel
theorem dX6_unavoidable_72 : decode cX6_unavoidable 72 = .ok (.aload_n 1, 1) := by decide +kernel
theorem dX6_unavoidable_73 : decode cX6_unavoidable 73 = .ok (.iload 5, 2) := by decide +kernel
theorem dX6_unavoidable_75 : decode cX6_unavoidable 75 = .ok (.invokevirtual 88, 3) := by decide +kernel
theorem dX6_unavoidable_78 : decode cX6_unavoidable 78 = .ok (.istore 6, 2) := by decide +kernel
theorem dX6_unavoidable_80 : decode cX6_unavoidable 80 = .ok (.aload_n 0, 1) := by decide +kernel
theorem dX6_unavoidable_81 : decode cX6_unavoidable 81 = .ok (.getfield 19, 3) := by decide +kernel
theorem dX6_unavoidable_84 : decode cX6_unavoidable 84 = .ok (.getfield 61, 3) := by decide +kernel
theorem dX6_unavoidable_87 : decode cX6_unavoidable 87 = .ok (.iload 5, 2) := by decide +kernel
theorem dX6_unavoidable_89 : decode cX6_unavoidable 89 = .ok (.iaload, 1) := by decide +kernel
theorem dX6_unavoidable_90 : decode cX6_unavoidable 90 = .ok (.iconst 2, 1) := by decide +kernel
theorem dX6_unavoidable_91 : decode cX6_unavoidable 91 = .ok (.if_icmp .ne 7, 3) := by decide +kernel
theorem dX6_unavoidable_94 : decode cX6_unavoidable 94 = .ok (.iconst 1, 1) := by decide +kernel
theorem dX6_unavoidable_95 : decode cX6_unavoidable 95 = .ok (.goto 4, 3) := by decide +kernel
theorem dX6_unavoidable_98 : decode cX6_unavoidable 98 = .ok (.iconst 0, 1) := by decide +kernel
theorem dX6_unavoidable_99 : decode cX6_unavoidable 99 = .ok (.istore 7, 2) := by decide +kernel
theorem dX6_unavoidable_101 : decode cX6_unavoidable 101 = .ok (.aload_n 0, 1) := by decide +kernel
theorem dX6_unavoidable_102 : decode cX6_unavoidable 102 = .ok (.getfield 19, 3) := by decide +kernel
theorem dX6_unavoidable_105 : decode cX6_unavoidable 105 = .ok (.getfield 61, 3) := by decide +kernel
theorem dX6_unavoidable_108 : decode cX6_unavoidable 108 = .ok (.iload 5, 2) := by decide +kernel
theorem dX6_unavoidable_110 : decode cX6_unavoidable 110 = .ok (.iaload, 1) := by decide +kernel
theorem dX6_unavoidable_111 : decode cX6_unavoidable 111 = .ok (.ifCond .eq 34, 3) := by decide +kernel
theorem dX6_unavoidable_114 : decode cX6_unavoidable 114 = .ok (.iload 7, 2) := by decide +kernel
theorem dX6_unavoidable_116 : decode cX6_unavoidable 116 = .ok (.ifCond .eq 15, 3) := by decide +kernel
theorem dX6_unavoidable_119 : decode cX6_unavoidable 119 = .ok (.iload 6, 2) := by decide +kernel
theorem dX6_unavoidable_121 : decode cX6_unavoidable 121 = .ok (.iload_n 2, 1) := by decide +kernel
theorem dX6_unavoidable_122 : decode cX6_unavoidable 122 = .ok (.iconst (-1), 1) := by decide +kernel
theorem dX6_unavoidable_123 : decode cX6_unavoidable 123 = .ok (.ixor, 1) := by decide +kernel
theorem dX6_unavoidable_124 : decode cX6_unavoidable 124 = .ok (.iand, 1) := by decide +kernel
theorem dX6_unavoidable_125 : decode cX6_unavoidable 125 = .ok (.ifCond .ne 20, 3) := by decide +kernel
theorem dX6_unavoidable_128 : decode cX6_unavoidable 128 = .ok (.goto 10, 3) := by decide +kernel
theorem dX6_unavoidable_131 : decode cX6_unavoidable 131 = .ok (.iload 6, 2) := by decide +kernel
theorem dX6_unavoidable_133 : decode cX6_unavoidable 133 = .ok (.iload_n 2, 1) := by decide +kernel
theorem dX6_unavoidable_134 : decode cX6_unavoidable 134 = .ok (.iand, 1) := by decide +kernel
theorem dX6_unavoidable_135 : decode cX6_unavoidable 135 = .ok (.ifCond .eq 10, 3) := by decide +kernel
theorem dX6_unavoidable_138 : decode cX6_unavoidable 138 = .ok (.iload_n 2, 1) := by decide +kernel
theorem dX6_unavoidable_139 : decode cX6_unavoidable 139 = .ok (.iconst 1, 1) := by decide +kernel
theorem dX6_unavoidable_140 : decode cX6_unavoidable 140 = .ok (.iload 5, 2) := by decide +kernel
theorem dX6_unavoidable_142 : decode cX6_unavoidable 142 = .ok (.ishl, 1) := by decide +kernel
theorem dX6_unavoidable_143 : decode cX6_unavoidable 143 = .ok (.ior, 1) := by decide +kernel
theorem dX6_unavoidable_144 : decode cX6_unavoidable 144 = .ok (.istore_n 2, 1) := by decide +kernel
theorem dX6_unavoidable_145 : decode cX6_unavoidable 145 = .ok (.iinc 5 1, 3) := by decide +kernel
theorem dX6_unavoidable_148 : decode cX6_unavoidable 148 = .ok (.goto (-118), 3) := by decide +kernel
theorem dX6_unavoidable_151 : decode cX6_unavoidable 151 = .ok (.iinc 4 1, 3) := by decide +kernel
theorem dX6_unavoidable_154 : decode cX6_unavoidable 154 = .ok (.goto (-141), 3) := by decide +kernel
theorem dX6_unavoidable_157 : decode cX6_unavoidable 157 = .ok (.iload_n 2, 1) := by decide +kernel
theorem dX6_unavoidable_158 : decode cX6_unavoidable 158 = .ok (.ireturn, 1) := by decide +kernel
set_option maxHeartbeats 4000000 in
set_option maxRecDepth 100000 in
theorem c_X6_firstWays (l : Launch) (D : va_G) (g : Nat → ClassId) (sz : Nat) (sv : Nat) (pl : Nat) (n : Nat) (co : Nat) (sv_keep : Nat) (sv_scaled : Nat) (n_nodes : Int32) (n_kind : Nat) (n_pay : Nat) (n_name : Nat) (n_ways : Nat) (n_held : Nat) (n_targets : Nat) (n_weights : Nat) (n_fheld : Nat → Int32) (plf : Nat → Int32) (h_n_nodes : 0 ≤ (n_nodes : Int32).toInt ∧ (n_nodes : Int32).toInt ≤ 12) (h_n_fheld : ∀ j : Nat, (-1) ≤ (n_fheld j).toInt ∧ (n_fheld j).toInt ≤ 2) (h_plf : ∀ j : Nat, 0 ≤ (plf j).toInt ∧ (plf j).toInt ≤ 2) : Met l yX6_firstWays (.code yX6_firstWays cX6_firstWays 3 none :: wsL_law) ({ frames := 0, cells := 0, slots := 0, locals := 0 }) (va_Pc [.ref sv, .ref pl] (fun U => U.heap.size = sz ∧ va_P D vwCl [(wO6 sv n co sv_keep sv_scaled), (wO2 n n_nodes n_kind n_pay n_name n_ways n_held n_targets n_weights), (wI g n_held 0 12 n_fheld), (wI g pl 0 12 plf)] U.heap ∧ va_K D vwCl (TY g) U ∧ va_D (fun _ => True) [(wO6 sv n co sv_keep sv_scaled), (wO2 n n_nodes n_kind n_pay n_name n_ways n_held n_targets n_weights), (wI g n_held 0 12 n_fheld), (wI g pl 0 12 plf)])) (va_Qv (fun (_ : Unit) => True) (fun _ t => ∃ opl : Nat → Int32, (∀ j : Nat, 0 ≤ (opl j).toInt ∧ (opl j).toInt ≤ 2) ∧ va_P D vwCl [(wO6 sv n co sv_keep sv_scaled), (wO2 n n_nodes n_kind n_pay n_name n_ways n_held n_targets n_weights), (wI g n_held 0 12 n_fheld), (wI g pl 0 12 opl)] t.heap ∧ va_D (va_A [(wO6 sv n co sv_keep sv_scaled), (wO2 n n_nodes n_kind n_pay n_name n_ways n_held n_targets n_weights), (wI g n_held 0 12 n_fheld), (wI g pl 0 12 plf)] sz) [(wO6 sv n co sv_keep sv_scaled), (wO2 n n_nodes n_kind n_pay n_name n_ways n_held n_targets n_weights), (wI g n_held 0 12 n_fheld), (wI g pl 0 12 opl)]) (va_A [(wO6 sv n co sv_keep sv_scaled), (wO2 n n_nodes n_kind n_pay n_name n_ways n_held n_targets n_weights), (wI g n_held 0 12 n_fheld), (wI g pl 0 12 plf)] sz)) 0 0 (va_A [(wO6 sv n co sv_keep sv_scaled), (wO2 n n_nodes n_kind n_pay n_name n_ways n_held n_targets n_weights), (wI g n_held 0 12 n_fheld), (wI g pl 0 12 plf)] sz) := by
  refine Met.ofW (cc := cX6_firstWays) (maxL := 3) (ret := none) (by decide) rfl ?_
  intro p e s m args below meth c s₁ B hml hv
  obtain ⟨ha, hsz, hP, hK, hD0⟩ := hv
  have hx := B.exec
  have hb := B.bytes
  have hr := B.returns
  have hts0 := atoms_spec (ws := (.code yX6_firstWays cX6_firstWays 3 none :: wsL_law)) B.pre
  have hts : ∀ w ∈ wsL_law, w.before args s = true := fun w h => hts0 w (List.mem_cons_of_mem _ h)
  have hown : s.vm.findClass RX6 = some m.cls := findClass_of_methodNamed B.named
  have hlocks := B.notSynchronized
  subst hsz
  have hD := hD0.self (sz := s.heap.size)
  generalize hAe : va_A [(wO6 sv n co sv_keep sv_scaled), (wO2 n n_nodes n_kind n_pay n_name n_ways n_held n_targets n_weights), (wI g n_held 0 12 n_fheld), (wI g pl 0 12 plf)] s.heap.size = A at hD ⊢
  have hA : ∀ q : Nat, s.heap.size ≤ q → A q := fun q h => by rw [← hAe]; exact Or.inr h
  have hS : va_S A s.heap s.heap [] := va_S.rf
  have hP : va_P D vwCl [(wO6 sv n co sv_keep sv_scaled), (wO2 n n_nodes n_kind n_pay n_name n_ways n_held n_targets n_weights), (wI g n_held 0 12 n_fheld), (wI g pl 0 12 plf)] s.heap := hP
  refine W.eq (g2 := entryFrame m ([.ref sv, .ref pl] : List Value).toArray 3) (by rw [ha]) ?_
  have hl := lv_entry ([.ref sv, .ref pl]) (n := 3) (Nat.le_of_ble_eq_true rfl)
  rw [lg_entry_eq]
  generalize (lg_sl ([.ref sv, .ref pl]) ++ List.replicate (3 - (lg_sl ([.ref sv, .ref pl])).length) Slot.unset).toArray = ls at hl ⊢
  have hl : lv_has ls 3 [(0, .ref sv), (1, .ref pl)] := hl
  refine lv_iconst (v := 0) hx hb dX6_firstWays_0 (by decide) ?_
  refine lv_istore_n (lv' := [(2, .int 0), (0, .ref sv), (1, .ref pl)]) hx hb dX6_firstWays_1 rfl hl (by decide) rfl (fun ls hl => ?_)
  have lp_80517 : ∀ (n_80517 : Nat) (x_80515 : Int32) (f_80516 : Nat → Int32) (H : Heap) (locs : List Loc) (ls : Array Slot), (0 ≤ (x_80515 : Int32).toInt ∧ (x_80515 : Int32).toInt ≤ 12) → (∀ j : Nat, 0 ≤ (f_80516 j).toInt ∧ (f_80516 j).toInt ≤ 2) → (12 - x_80515.toInt < (n_80517 : Int)) → va_P D vwCl [(wO6 sv n co sv_keep sv_scaled), (wO2 n n_nodes n_kind n_pay n_name n_ways n_held n_targets n_weights), (wI g n_held 0 12 n_fheld), (wI g pl 0 12 f_80516)] H → va_D A [(wO6 sv n co sv_keep sv_scaled), (wO2 n n_nodes n_kind n_pay n_name n_ways n_held n_targets n_weights), (wI g n_held 0 12 n_fheld), (wI g pl 0 12 f_80516)] → va_S A s.heap H locs → lv_has ls 3 [(2, .int x_80515), (0, .ref sv), (1, .ref pl)] → W p l e (headSpec (.code yX6_firstWays cX6_firstWays 3 none :: wsL_law) ({ frames := 0, cells := 0, slots := 0, locals := 0 })).room s m args below meth c H locs 0 0 (MQ below (va_Qv (fun (_ : Unit) => True) (fun _ t => ∃ opl : Nat → Int32, (∀ j : Nat, 0 ≤ (opl j).toInt ∧ (opl j).toInt ≤ 2) ∧ va_P D vwCl [(wO6 sv n co sv_keep sv_scaled), (wO2 n n_nodes n_kind n_pay n_name n_ways n_held n_targets n_weights), (wI g n_held 0 12 n_fheld), (wI g pl 0 12 opl)] t.heap ∧ va_D A [(wO6 sv n co sv_keep sv_scaled), (wO2 n n_nodes n_kind n_pay n_name n_ways n_held n_targets n_weights), (wI g n_held 0 12 n_fheld), (wI g pl 0 12 opl)]) A) args s 0 0 A) (F0 m 2 ls []) := by
    intro n_80517
    induction n_80517 with
    | zero =>
      intro x_80515 f_80516 H locs ls h_x_80515 h_f_80516 hm_80517 hP hD hS hl
      exfalso; omega
    | succ n_80517 ih_80517 =>
      intro x_80515 f_80516 H locs ls h_x_80515 h_f_80516 hm_80517 hP hD hS hl
      refine lv_iload_n hx hb dX6_firstWays_2 rfl (lv_at hl 0 rfl) ?_
      refine lv_aload_n hx hb dX6_firstWays_3 rfl (lv_at hl 1 rfl) ?_
      refine va_get (D := D) (ci := 6) (v := .ref n) (C := RX6) (T := TX6) (N := 4) hx hb hts inlX6 hown hK hP 0 rfl rfl 0 (by decide) (hts (Cond.fieldLink RX6 19 "ChanceRings$Solver" "net" "LChanceRings$Net;") qw_548) (fun _ h9 => h9) rfl dX6_firstWays_4 ?_
      refine va_get (D := D) (ci := 2) (v := .int n_nodes) (C := RX2) (T := TX2) (N := 8) hx hb hts inlX2 hown hK hP 1 rfl rfl 0 (by decide) (hts (Cond.fieldLink RX6 32 "ChanceRings$Net" "nodes" "I") qw_549) (fun _ h9 => h9) rfl dX6_firstWays_7 ?_
      refine lv_icmp_ge (tgt := 48) hx hb dX6_firstWays_10 (by decide) (fun c_80518 => ?_) (fun c_80518 => ?_)
      · skip
        have hP9 := hP.sub (ws' := [(wO6 sv n co sv_keep sv_scaled), (wO2 n n_nodes n_kind n_pay n_name n_ways n_held n_targets n_weights), (wI g n_held 0 12 n_fheld), (wI g pl 0 12 f_80516)]) [0, 1, 2, 3] rfl
        have hD9 := hD.sub (ws' := [(wO6 sv n co sv_keep sv_scaled), (wO2 n n_nodes n_kind n_pay n_name n_ways n_held n_targets n_weights), (wI g n_held 0 12 n_fheld), (wI g pl 0 12 f_80516)]) [0, 1, 2, 3] (by decide) rfl
        exact W.vret hx hb hr (fun t ht hW => ⟨⟨(), rfl, trivial, f_80516, (tr_wa h_f_80516 (by decide) (by decide)), by rw [ht]; exact hP9, hD9⟩, hS.F ht⟩) hS.2.2 dX6_firstWays_48
      · skip
        have c_80518_i := Int32.lt_iff_toInt_lt.mp (Int32.not_le.mp c_80518)
        have h_80519 : 0 ≤ (x_80515 : Int32).toInt ∧ (x_80515 : Int32).toInt ≤ 11 := nr_lt_l h_x_80515 h_n_nodes c_80518_i (by decide) (by decide)
        have h_80520 : 1 ≤ (n_nodes : Int32).toInt ∧ (n_nodes : Int32).toInt ≤ 12 := nr_lt_r h_x_80515 h_n_nodes c_80518_i (by decide) (by decide)
        refine lv_aload_n hx hb dX6_firstWays_13 rfl (lv_at hl 2 rfl) ?_
        refine lv_iload_n hx hb dX6_firstWays_14 rfl (lv_at hl 0 rfl) ?_
        refine lv_aload_n hx hb dX6_firstWays_15 rfl (lv_at hl 1 rfl) ?_
        refine va_get (D := D) (ci := 6) (v := .ref n) (C := RX6) (T := TX6) (N := 4) hx hb hts inlX6 hown hK hP 0 rfl rfl 0 (by decide) (hts (Cond.fieldLink RX6 19 "ChanceRings$Solver" "net" "LChanceRings$Net;") qw_548) (fun _ h9 => h9) rfl dX6_firstWays_16 ?_
        refine va_get (D := D) (ci := 2) (v := .ref n_held) (C := RX2) (T := TX2) (N := 8) hx hb hts inlX2 hown hK hP 1 rfl rfl 5 (by decide) (hts (Cond.fieldLink RX6 38 "ChanceRings$Net" "held" "[I") qw_550) (fun _ h9 => h9) rfl dX6_firstWays_19 ?_
        refine lv_iload_n hx hb dX6_firstWays_22 rfl (lv_at hl 0 rfl) ?_
        refine va_iald hx hb hK hP 2 0 rfl rfl (tr_in h_80519 (by decide) (by decide)) dX6_firstWays_23 ?_
        refine lv_topi (fun v_80521 v_80521_e => ?_)
        have h_v_80521 : (-1) ≤ (v_80521 : Int32).toInt ∧ (v_80521 : Int32).toInt ≤ 2 := by rw [v_80521_e]; exact h_n_fheld _
        refine lv_iconst (v := (-1)) hx hb dX6_firstWays_24 (by decide) ?_
        refine lv_icmp_ne (tgt := 32) hx hb dX6_firstWays_25 (by decide) (fun c_80522 => ?_) (fun c_80522 => ?_)
        · skip
          have c_80522_i : ¬ (v_80521 : Int32).toInt = ((-1) : Int32).toInt := (fun q => c_80522 (Int32.toInt_inj.mp q))
          have h_80523 : 0 ≤ (v_80521 : Int32).toInt ∧ (v_80521 : Int32).toInt ≤ 2 := nr_ne_l h_v_80521 (⟨by decide, by decide⟩ : (-1) ≤ ((-1) : Int32).toInt ∧ ((-1) : Int32).toInt ≤ (-1)) c_80522_i (by decide) (by decide)
          refine lv_aload_n hx hb dX6_firstWays_32 rfl (lv_at hl 1 rfl) ?_
          refine va_get (D := D) (ci := 6) (v := .ref n) (C := RX6) (T := TX6) (N := 4) hx hb hts inlX6 hown hK hP 0 rfl rfl 0 (by decide) (hts (Cond.fieldLink RX6 19 "ChanceRings$Solver" "net" "LChanceRings$Net;") qw_548) (fun _ h9 => h9) rfl dX6_firstWays_33 ?_
          refine va_get (D := D) (ci := 2) (v := .ref n_held) (C := RX2) (T := TX2) (N := 8) hx hb hts inlX2 hown hK hP 1 rfl rfl 5 (by decide) (hts (Cond.fieldLink RX6 38 "ChanceRings$Net" "held" "[I") qw_550) (fun _ h9 => h9) rfl dX6_firstWays_36 ?_
          refine lv_iload_n hx hb dX6_firstWays_39 rfl (lv_at hl 0 rfl) ?_
          refine va_iald hx hb hK hP 2 0 rfl rfl (tr_in h_80519 (by decide) (by decide)) dX6_firstWays_40 ?_
          refine tz_i (y := v_80521) v_80521_e.symm ?_
          refine va_iast hx hb hK hP hD hS 3 0 rfl rfl (tr_in h_80519 (by decide) (by decide)) dX6_firstWays_41 (fun H locs hP hD hS => ?_)
          obtain ⟨f_80525, h_f_80525, hP, hD⟩ : ∃ FX : Nat → Int32, (∀ j : Nat, 0 ≤ (FX j).toInt ∧ (FX j).toInt ≤ 2) ∧ va_P D vwCl [(wO6 sv n co sv_keep sv_scaled), (wO2 n n_nodes n_kind n_pay n_name n_ways n_held n_targets n_weights), (wI g n_held 0 12 n_fheld), (wI g pl 0 12 FX)] H ∧ va_D A [(wO6 sv n co sv_keep sv_scaled), (wO2 n n_nodes n_kind n_pay n_name n_ways n_held n_targets n_weights), (wI g n_held 0 12 n_fheld), (wI g pl 0 12 FX)] := ⟨_, tr_upd h_f_80516 (tr_w h_80523 (by decide) (by decide)), hP, hD⟩
          have hP : va_P D vwCl [(wO6 sv n co sv_keep sv_scaled), (wO2 n n_nodes n_kind n_pay n_name n_ways n_held n_targets n_weights), (wI g n_held 0 12 n_fheld), (wI g pl 0 12 f_80525)] H := hP
          have hD : va_D A [(wO6 sv n co sv_keep sv_scaled), (wO2 n n_nodes n_kind n_pay n_name n_ways n_held n_targets n_weights), (wI g n_held 0 12 n_fheld), (wI g pl 0 12 f_80525)] := hD
          obtain ⟨v_80526, v_80526_e⟩ : ∃ y : Int32, y = x_80515 + Int32.ofInt 1 := ⟨_, rfl⟩
          have h_v_80526 : 1 ≤ (v_80526 : Int32).toInt ∧ (v_80526 : Int32).toInt ≤ 12 := by rw [v_80526_e]; exact tr_add h_80519 (⟨by decide, by decide⟩ : 1 ≤ (Int32.ofInt 1 : Int32).toInt ∧ (Int32.ofInt 1 : Int32).toInt ≤ 1) (by decide) (by decide) (by decide) (by decide)
          have q_v_80526 : v_80526.toInt = x_80515.toInt + 1 := by rw [v_80526_e]; exact tr_addE h_80519 (⟨by decide, by decide⟩ : 1 ≤ (Int32.ofInt 1 : Int32).toInt ∧ (Int32.ofInt 1 : Int32).toInt ≤ 1) (by decide) (by decide)
          refine lv_iinc (v := v_80526) (lv' := [(2, .int v_80526), (0, .ref sv), (1, .ref pl)]) hx hb dX6_firstWays_42 hl (k := 0) rfl v_80526_e.symm (by decide) rfl (fun ls hl => ?_)
          refine lv_goto (tgt := 2) hx hb dX6_firstWays_45 (by decide) ?_
          exact ih_80517 v_80526 f_80525 H _ ls (tr_w h_v_80526 (by decide) (by decide)) (tr_wa h_f_80525 (by decide) (by decide)) (by (first | (clear h_f_80516 h_v_80521 c_80522_i h_80523; omega) | omega)) (hP.sub [0, 1, 2, 3] rfl) (hD.sub [0, 1, 2, 3] (by decide) rfl) hS (lv_sub hl [0, 1, 2] rfl)
        · skip
          have c_80522_i : (v_80521 : Int32).toInt = ((-1) : Int32).toInt := congrArg Int32.toInt c_80522
          have h_80524 : (-1) ≤ (v_80521 : Int32).toInt ∧ (v_80521 : Int32).toInt ≤ (-1) := nr_eq_l h_v_80521 (⟨by decide, by decide⟩ : (-1) ≤ ((-1) : Int32).toInt ∧ ((-1) : Int32).toInt ≤ (-1)) c_80522_i (by decide) (by decide)
          refine lv_iconst (v := 0) hx hb dX6_firstWays_28 (by decide) ?_
          refine lv_goto (tgt := 41) hx hb dX6_firstWays_29 (by decide) ?_
          refine va_iast hx hb hK hP hD hS 3 0 rfl rfl (tr_in h_80519 (by decide) (by decide)) dX6_firstWays_41 (fun H locs hP hD hS => ?_)
          obtain ⟨f_80527, h_f_80527, hP, hD⟩ : ∃ FX : Nat → Int32, (∀ j : Nat, 0 ≤ (FX j).toInt ∧ (FX j).toInt ≤ 2) ∧ va_P D vwCl [(wO6 sv n co sv_keep sv_scaled), (wO2 n n_nodes n_kind n_pay n_name n_ways n_held n_targets n_weights), (wI g n_held 0 12 n_fheld), (wI g pl 0 12 FX)] H ∧ va_D A [(wO6 sv n co sv_keep sv_scaled), (wO2 n n_nodes n_kind n_pay n_name n_ways n_held n_targets n_weights), (wI g n_held 0 12 n_fheld), (wI g pl 0 12 FX)] := ⟨_, tr_upd h_f_80516 (⟨by decide, by decide⟩ : 0 ≤ (0 : Int32).toInt ∧ (0 : Int32).toInt ≤ 2), hP, hD⟩
          have hP : va_P D vwCl [(wO6 sv n co sv_keep sv_scaled), (wO2 n n_nodes n_kind n_pay n_name n_ways n_held n_targets n_weights), (wI g n_held 0 12 n_fheld), (wI g pl 0 12 f_80527)] H := hP
          have hD : va_D A [(wO6 sv n co sv_keep sv_scaled), (wO2 n n_nodes n_kind n_pay n_name n_ways n_held n_targets n_weights), (wI g n_held 0 12 n_fheld), (wI g pl 0 12 f_80527)] := hD
          obtain ⟨v_80528, v_80528_e⟩ : ∃ y : Int32, y = x_80515 + Int32.ofInt 1 := ⟨_, rfl⟩
          have h_v_80528 : 1 ≤ (v_80528 : Int32).toInt ∧ (v_80528 : Int32).toInt ≤ 12 := by rw [v_80528_e]; exact tr_add h_80519 (⟨by decide, by decide⟩ : 1 ≤ (Int32.ofInt 1 : Int32).toInt ∧ (Int32.ofInt 1 : Int32).toInt ≤ 1) (by decide) (by decide) (by decide) (by decide)
          have q_v_80528 : v_80528.toInt = x_80515.toInt + 1 := by rw [v_80528_e]; exact tr_addE h_80519 (⟨by decide, by decide⟩ : 1 ≤ (Int32.ofInt 1 : Int32).toInt ∧ (Int32.ofInt 1 : Int32).toInt ≤ 1) (by decide) (by decide)
          refine lv_iinc (v := v_80528) (lv' := [(2, .int v_80528), (0, .ref sv), (1, .ref pl)]) hx hb dX6_firstWays_42 hl (k := 0) rfl v_80528_e.symm (by decide) rfl (fun ls hl => ?_)
          refine lv_goto (tgt := 2) hx hb dX6_firstWays_45 (by decide) ?_
          exact ih_80517 v_80528 f_80527 H _ ls (tr_w h_v_80528 (by decide) (by decide)) (tr_wa h_f_80527 (by decide) (by decide)) (by (first | (clear h_f_80516 h_v_80521 c_80522_i h_80524; omega) | omega)) (hP.sub [0, 1, 2, 3] rfl) (hD.sub [0, 1, 2, 3] (by decide) rfl) hS (lv_sub hl [0, 1, 2] rfl)
  exact lp_80517 13 0 plf s.heap _ ls (⟨by decide, by decide⟩ : 0 ≤ (0 : Int32).toInt ∧ (0 : Int32).toInt ≤ 12) (tr_wa h_plf (by decide) (by decide)) (by decide) (hP.sub [0, 1, 2, 3] rfl) (hD.sub [0, 1, 2, 3] (by decide) rfl) hS (lv_sub hl [0, 1, 2] rfl)
set_option maxHeartbeats 4000000 in
set_option maxRecDepth 100000 in
theorem c_X6_betterWay (l : Launch) (D : va_G) (g : Nat → ClassId) (sv : Nat) (p0 : Int32) (p1 : Int32) (vs : Nat) (n : Nat) (co : Nat) (sv_keep : Nat) (sv_scaled : Nat) (n_nodes : Int32) (n_kind : Nat) (n_pay : Nat) (n_name : Nat) (n_ways : Nat) (n_held : Nat) (n_targets : Nat) (n_weights : Nat) (n_fkind : Nat → Int32) (n_fways : Nat → Int32) (n_ftargets : Nat → Int32) (vs_part : Nat) (vsw : Int64) (vsp : Nat → Int64) (h_p0 : 0 ≤ (p0 : Int32).toInt ∧ (p0 : Int32).toInt ≤ 11) (h_p1 : 0 ≤ (p1 : Int32).toInt ∧ (p1 : Int32).toInt ≤ 2) (h_n_nodes : 0 ≤ (n_nodes : Int32).toInt ∧ (n_nodes : Int32).toInt ≤ 12) (h_n_fkind : ∀ j : Nat, 0 ≤ (n_fkind j).toInt ∧ (n_fkind j).toInt ≤ 3) (h_n_fways : ∀ j : Nat, 0 ≤ (n_fways j).toInt ∧ (n_fways j).toInt ≤ 3) (h_n_ftargets : ∀ j : Nat, 0 ≤ (n_ftargets j).toInt ∧ (n_ftargets j).toInt ≤ 11) : Met l yX6_betterWay (.code yX6_betterWay cX6_betterWay 9 (some .int) :: wsL_law) ({ frames := 1, cells := 0, slots := 0, locals := 22 }) (va_Pc [.ref sv, .int p0, .int p1, .ref vs] (fun U => va_P D vwCl [(wO6 sv n co sv_keep sv_scaled), (wO2 n n_nodes n_kind n_pay n_name n_ways n_held n_targets n_weights), (wI g n_kind 0 12 n_fkind), (wI g n_ways 0 12 n_fways), (wI g n_targets 0 36 n_ftargets), (wO10 vs vs_part vsw), (wJ g vs_part 1 12 vsp)] U.heap ∧ va_K D vwCl (TY g) U)) (vp_Si (fun r => 0 ≤ (r : Int32).toInt ∧ (r : Int32).toInt ≤ 2)) 0 0 (fun _ => False) := by
  refine Met.ofW (cc := cX6_betterWay) (maxL := 9) (ret := (some .int)) (by decide) rfl ?_
  intro p e s m args below meth c s₁ B hml hv
  obtain ⟨ha, hP, hK⟩ := hv
  have hx := B.exec
  have hb := B.bytes
  have hr := B.returns
  have hts0 := atoms_spec (ws := (.code yX6_betterWay cX6_betterWay 9 (some .int) :: wsL_law)) B.pre
  have hts : ∀ w ∈ wsL_law, w.before args s = true := fun w h => hts0 w (List.mem_cons_of_mem _ h)
  have hown : s.vm.findClass RX6 = some m.cls := findClass_of_methodNamed B.named
  have hlocks := B.notSynchronized
  have hP : va_P D vwCl [(wO6 sv n co sv_keep sv_scaled), (wO2 n n_nodes n_kind n_pay n_name n_ways n_held n_targets n_weights), (wI g n_kind 0 12 n_fkind), (wI g n_ways 0 12 n_fways), (wI g n_targets 0 36 n_ftargets), (wO10 vs vs_part vsw), (wJ g vs_part 1 12 vsp)] s.heap := hP
  refine W.eq (g2 := entryFrame m ([.ref sv, .int p0, .int p1, .ref vs] : List Value).toArray 9) (by rw [ha]) ?_
  have hl := lv_entry ([.ref sv, .int p0, .int p1, .ref vs]) (n := 9) (Nat.le_of_ble_eq_true rfl)
  rw [lg_entry_eq]
  generalize (lg_sl ([.ref sv, .int p0, .int p1, .ref vs]) ++ List.replicate (9 - (lg_sl ([.ref sv, .int p0, .int p1, .ref vs])).length) Slot.unset).toArray = ls at hl ⊢
  have hl : lv_has ls 9 [(0, .ref sv), (1, .int p0), (2, .int p1), (3, .ref vs)] := hl
  refine lv_aload_n hx hb dX6_betterWay_0 rfl (lv_at hl 0 rfl) ?_
  refine va_get (D := D) (ci := 6) (v := .ref n) (C := RX6) (T := TX6) (N := 4) hx hb hts inlX6 hown hK hP 0 rfl rfl 0 (by decide) (hts (Cond.fieldLink RX6 19 "ChanceRings$Solver" "net" "LChanceRings$Net;") qw_548) (fun _ h9 => h9) rfl dX6_betterWay_1 ?_
  refine va_get (D := D) (ci := 2) (v := .ref n_kind) (C := RX2) (T := TX2) (N := 8) hx hb hts inlX2 hown hK hP 1 rfl rfl 1 (by decide) (hts (Cond.fieldLink RX6 61 "ChanceRings$Net" "kind" "[I") qw_551) (fun _ h9 => h9) rfl dX6_betterWay_4 ?_
  refine lv_iload_n hx hb dX6_betterWay_7 rfl (lv_at hl 1 rfl) ?_
  refine va_iald hx hb hK hP 2 0 rfl rfl (tr_in h_p0 (by decide) (by decide)) dX6_betterWay_8 ?_
  refine lv_topi (fun v_80529 v_80529_e => ?_)
  have h_v_80529 : 0 ≤ (v_80529 : Int32).toInt ∧ (v_80529 : Int32).toInt ≤ 3 := by rw [v_80529_e]; exact h_n_fkind _
  refine lv_iconst (v := 1) hx hb dX6_betterWay_9 (by decide) ?_
  refine lv_icmp_ne (tgt := 17) hx hb dX6_betterWay_10 (by decide) (fun c_80530 => ?_) (fun c_80530 => ?_)
  · skip
    refine lv_iconst (v := (-1)) hx hb dX6_betterWay_17 (by decide) ?_
    refine lv_istore (lv' := [(4, .int (-1)), (0, .ref sv), (1, .int p0), (2, .int p1), (3, .ref vs)]) hx hb dX6_betterWay_18 hl (by decide) rfl (fun ls hl => ?_)
    refine lv_iload_n hx hb dX6_betterWay_20 rfl (lv_at hl 3 rfl) ?_
    refine lv_istore (lv' := [(5, .int p1), (4, .int (-1)), (0, .ref sv), (1, .int p0), (2, .int p1), (3, .ref vs)]) hx hb dX6_betterWay_21 hl (by decide) rfl (fun ls hl => ?_)
    refine lv_iconst (v := 0) hx hb dX6_betterWay_23 (by decide) ?_
    refine lv_istore (lv' := [(6, .int 0), (5, .int p1), (4, .int (-1)), (0, .ref sv), (1, .int p0), (2, .int p1), (3, .ref vs)]) hx hb dX6_betterWay_24 hl (by decide) rfl (fun ls hl => ?_)
    have lp_80610 : ∀ (n_80610 : Nat) (x_80608 : Int32) (x_80609 : Int32) (ls : Array Slot), (0 ≤ (x_80608 : Int32).toInt ∧ (x_80608 : Int32).toInt ≤ 3) → (0 ≤ (x_80609 : Int32).toInt ∧ (x_80609 : Int32).toInt ≤ 2) → (3 - x_80608.toInt < (n_80610 : Int)) → lv_has ls 9 [(6, .int x_80608), (5, .int x_80609), (4, .int (-1)), (0, .ref sv), (1, .int p0), (2, .int p1), (3, .ref vs)] → W p l e (headSpec (.code yX6_betterWay cX6_betterWay 9 (some .int) :: wsL_law) ({ frames := 1, cells := 0, slots := 0, locals := 22 })).room s m args below meth c s.heap [] 0 0 (MQ below (vp_Si (fun r => 0 ≤ (r : Int32).toInt ∧ (r : Int32).toInt ≤ 2)) args s 0 0 (fun _ => False)) (F0 m 26 ls []) := by
      intro n_80610
      induction n_80610 with
      | zero =>
        intro x_80608 x_80609 ls h_x_80608 h_x_80609 hm_80610 hl
        exfalso; omega
      | succ n_80610 ih_80610 =>
        intro x_80608 x_80609 ls h_x_80608 h_x_80609 hm_80610 hl
        refine lv_iload hx hb dX6_betterWay_26 (lv_at hl 0 rfl) ?_
        refine lv_aload_n hx hb dX6_betterWay_28 rfl (lv_at hl 3 rfl) ?_
        refine va_get (D := D) (ci := 6) (v := .ref n) (C := RX6) (T := TX6) (N := 4) hx hb hts inlX6 hown hK hP 0 rfl rfl 0 (by decide) (hts (Cond.fieldLink RX6 19 "ChanceRings$Solver" "net" "LChanceRings$Net;") qw_548) (fun _ h9 => h9) rfl dX6_betterWay_29 ?_
        refine va_get (D := D) (ci := 2) (v := .ref n_ways) (C := RX2) (T := TX2) (N := 8) hx hb hts inlX2 hown hK hP 1 rfl rfl 4 (by decide) (hts (Cond.fieldLink RX6 68 "ChanceRings$Net" "ways" "[I") qw_552) (fun _ h9 => h9) rfl dX6_betterWay_32 ?_
        refine lv_iload_n hx hb dX6_betterWay_35 rfl (lv_at hl 4 rfl) ?_
        refine va_iald hx hb hK hP 3 0 rfl rfl (tr_in h_p0 (by decide) (by decide)) dX6_betterWay_36 ?_
        refine lv_topi (fun v_80611 v_80611_e => ?_)
        have h_v_80611 : 0 ≤ (v_80611 : Int32).toInt ∧ (v_80611 : Int32).toInt ≤ 3 := by rw [v_80611_e]; exact h_n_fways _
        refine lv_icmp_ge (tgt := 94) hx hb dX6_betterWay_37 (by decide) (fun c_80612 => ?_) (fun c_80612 => ?_)
        · skip
          refine lv_iload hx hb dX6_betterWay_94 (lv_at hl 1 rfl) ?_
          exact W.iret (v := x_80609) hx hb hr (fun t ht hW => ⟨x_80609, rfl, (tr_w h_x_80609 (by decide) (by decide)), ht⟩) (fun _ h => nomatch h) dX6_betterWay_96
        · skip
          have c_80612_i := Int32.lt_iff_toInt_lt.mp (Int32.not_le.mp c_80612)
          have h_80613 : 0 ≤ (x_80608 : Int32).toInt ∧ (x_80608 : Int32).toInt ≤ 2 := nr_lt_l h_x_80608 h_v_80611 c_80612_i (by decide) (by decide)
          have h_80614 : 1 ≤ (v_80611 : Int32).toInt ∧ (v_80611 : Int32).toInt ≤ 3 := nr_lt_r h_x_80608 h_v_80611 c_80612_i (by decide) (by decide)
          refine lv_aload_n hx hb dX6_betterWay_40 rfl (lv_at hl 6 rfl) ?_
          refine va_get (D := D) (ci := 10) (v := .ref vs_part) (C := RX10) (T := TX10) (N := 2) hx hb hts inlX10 hown hK hP 5 rfl rfl 0 (by decide) (hts (Cond.fieldLink RX6 71 "ChanceRings$Values" "part" "[J") qw_553) (fun _ h9 => h9) rfl dX6_betterWay_41 ?_
          refine lv_aload_n hx hb dX6_betterWay_44 rfl (lv_at hl 3 rfl) ?_
          refine va_get (D := D) (ci := 6) (v := .ref n) (C := RX6) (T := TX6) (N := 4) hx hb hts inlX6 hown hK hP 0 rfl rfl 0 (by decide) (hts (Cond.fieldLink RX6 19 "ChanceRings$Solver" "net" "LChanceRings$Net;") qw_548) (fun _ h9 => h9) rfl dX6_betterWay_45 ?_
          refine lv_iload_n hx hb dX6_betterWay_48 rfl (lv_at hl 4 rfl) ?_
          refine lv_iload hx hb dX6_betterWay_49 (lv_at hl 0 rfl) ?_
          have hPc := hP.sub (ws' := [(wO2 n n_nodes n_kind n_pay n_name n_ways n_held n_targets n_weights), (wI g n_targets 0 36 n_ftargets)]) [1, 4] rfl
          refine vp_callSi (va_Run.run (va_runV (As := [.int p0, .int x_80608]) (rest := [.ref vs_part]) ⟨hx, hb, hml, hown, hts⟩ (c_X2_target l D g n p0 x_80608 n_nodes n_kind n_pay n_name n_ways n_held n_targets n_weights n_ftargets (tr_w h_p0 (by decide) (by decide)) (tr_w h_80613 (by decide) (by decide)) (tr_w h_n_nodes (by decide) (by decide)) (tr_wa h_n_ftargets (by decide) (by decide))) (cwV 2 hts (tz_gV qw_554 qw_325 qw_326 qw_322 qw_327) rfl rfl rfl (by decide +kernel) ⟨Nat.le_of_ble_eq_true rfl, Nat.le_of_ble_eq_true rfl⟩) ⟨tz_blS, va_recv hK hPc (ci := 2) (q0 := 0) rfl rfl, tz_preS hPc hK⟩ rfl rfl hl.1 rfl (lv_room (Nat.le_of_ble_eq_true rfl)) dX6_betterWay_51 ⟨Nat.le_of_ble_eq_true rfl, Nat.le_of_ble_eq_true rfl⟩)) (fun r_80615 hw => ?_)
          have hw_80616 : 0 ≤ (r_80615 : Int32).toInt ∧ (r_80615 : Int32).toInt ≤ 11 := hw
          refine va_lald hx hb hK hP 6 1 rfl rfl (tr_in hw_80616 (by decide) (by decide)) dX6_betterWay_54 ?_
          refine lv_topl (fun w_80617 _ => ?_)
          refine lv_aload_n hx hb dX6_betterWay_55 rfl (lv_at hl 6 rfl) ?_
          refine va_get (D := D) (ci := 10) (v := .ref vs_part) (C := RX10) (T := TX10) (N := 2) hx hb hts inlX10 hown hK hP 5 rfl rfl 0 (by decide) (hts (Cond.fieldLink RX6 71 "ChanceRings$Values" "part" "[J") qw_553) (fun _ h9 => h9) rfl dX6_betterWay_56 ?_
          refine lv_aload_n hx hb dX6_betterWay_59 rfl (lv_at hl 3 rfl) ?_
          refine va_get (D := D) (ci := 6) (v := .ref n) (C := RX6) (T := TX6) (N := 4) hx hb hts inlX6 hown hK hP 0 rfl rfl 0 (by decide) (hts (Cond.fieldLink RX6 19 "ChanceRings$Solver" "net" "LChanceRings$Net;") qw_548) (fun _ h9 => h9) rfl dX6_betterWay_60 ?_
          refine lv_iload_n hx hb dX6_betterWay_63 rfl (lv_at hl 4 rfl) ?_
          refine lv_iload hx hb dX6_betterWay_64 (lv_at hl 1 rfl) ?_
          have hPc := hP.sub (ws' := [(wO2 n n_nodes n_kind n_pay n_name n_ways n_held n_targets n_weights), (wI g n_targets 0 36 n_ftargets)]) [1, 4] rfl
          refine vp_callSi (va_Run.run (va_runV (As := [.int p0, .int x_80609]) (rest := [.ref vs_part, .long w_80617]) ⟨hx, hb, hml, hown, hts⟩ (c_X2_target l D g n p0 x_80609 n_nodes n_kind n_pay n_name n_ways n_held n_targets n_weights n_ftargets (tr_w h_p0 (by decide) (by decide)) (tr_w h_x_80609 (by decide) (by decide)) (tr_w h_n_nodes (by decide) (by decide)) (tr_wa h_n_ftargets (by decide) (by decide))) (cwV 2 hts (tz_gV qw_554 qw_325 qw_326 qw_322 qw_327) rfl rfl rfl (by decide +kernel) ⟨Nat.le_of_ble_eq_true rfl, Nat.le_of_ble_eq_true rfl⟩) ⟨tz_blS, va_recv hK hPc (ci := 2) (q0 := 0) rfl rfl, tz_preS hPc hK⟩ rfl rfl hl.1 rfl (lv_room (Nat.le_of_ble_eq_true rfl)) dX6_betterWay_66 ⟨Nat.le_of_ble_eq_true rfl, Nat.le_of_ble_eq_true rfl⟩)) (fun r_80618 hw => ?_)
          have hw_80619 : 0 ≤ (r_80618 : Int32).toInt ∧ (r_80618 : Int32).toInt ≤ 11 := hw
          refine va_lald hx hb hK hP 6 1 rfl rfl (tr_in hw_80619 (by decide) (by decide)) dX6_betterWay_69 ?_
          refine lv_topl (fun w_80620 _ => ?_)
          refine lv_lsub hx hb dX6_betterWay_70 ?_
          refine lv_topl (fun w_80621 _ => ?_)
          refine lv_lstore (lv' := [(7, .long w_80621), (6, .int x_80608), (5, .int x_80609), (4, .int (-1)), (0, .ref sv), (1, .int p0), (2, .int p1), (3, .ref vs)]) hx hb dX6_betterWay_71 hl (by decide) rfl (fun ls hl => ?_)
          refine lv_iload hx hb dX6_betterWay_73 (lv_at hl 3 rfl) ?_
          refine lv_i2l (v := (-1)) hx hb dX6_betterWay_75 (by decide +kernel) ?_
          refine lv_lload hx hb dX6_betterWay_76 (lv_at hl 0 rfl) ?_
          refine lv_lmul hx hb dX6_betterWay_78 ?_
          refine lv_topl (fun w_80622 _ => ?_)
          refine lv_lconst (v := 0) hx hb dX6_betterWay_79 (by decide) ?_
          refine W.lcmp hx hb dX6_betterWay_80 ?_
          refine lv_topi (fun v_80623 v_80623_e => ?_)
          have h_v_80623 : (-1) ≤ (v_80623 : Int32).toInt ∧ (v_80623 : Int32).toInt ≤ 1 := by rw [v_80623_e]; exact tr_cmp _ _
          refine lv_if_le (tgt := 88) hx hb dX6_betterWay_81 (by decide) (fun c_80624 => ?_) (fun c_80624 => ?_)
          · skip
            have c_80624_i := Int32.le_iff_toInt_le.mp c_80624
            have h_80625 : (-1) ≤ (v_80623 : Int32).toInt ∧ (v_80623 : Int32).toInt ≤ 0 := nr_le_l h_v_80623 (⟨by decide, by decide⟩ : 0 ≤ (0 : Int32).toInt ∧ (0 : Int32).toInt ≤ 0) c_80624_i (by decide) (by decide)
            obtain ⟨v_80627, v_80627_e⟩ : ∃ y : Int32, y = x_80608 + Int32.ofInt 1 := ⟨_, rfl⟩
            have h_v_80627 : 1 ≤ (v_80627 : Int32).toInt ∧ (v_80627 : Int32).toInt ≤ 3 := by rw [v_80627_e]; exact tr_add h_80613 (⟨by decide, by decide⟩ : 1 ≤ (Int32.ofInt 1 : Int32).toInt ∧ (Int32.ofInt 1 : Int32).toInt ≤ 1) (by decide) (by decide) (by decide) (by decide)
            have q_v_80627 : v_80627.toInt = x_80608.toInt + 1 := by rw [v_80627_e]; exact tr_addE h_80613 (⟨by decide, by decide⟩ : 1 ≤ (Int32.ofInt 1 : Int32).toInt ∧ (Int32.ofInt 1 : Int32).toInt ≤ 1) (by decide) (by decide)
            refine lv_iinc (v := v_80627) (lv' := [(6, .int v_80627), (7, .long w_80621), (5, .int x_80609), (4, .int (-1)), (0, .ref sv), (1, .int p0), (2, .int p1), (3, .ref vs)]) hx hb dX6_betterWay_88 hl (k := 1) rfl v_80627_e.symm (by decide) rfl (fun ls hl => ?_)
            refine lv_goto (tgt := 26) hx hb dX6_betterWay_91 (by decide) ?_
            exact ih_80610 v_80627 x_80609 ls (tr_w h_v_80627 (by decide) (by decide)) (tr_w h_x_80609 (by decide) (by decide)) (by (first | (clear h_p0 h_p1 h_n_nodes h_v_80529 hw_80616 hw_80619 h_v_80623 c_80624_i h_80625; omega) | omega)) (lv_sub hl [0, 2, 3, 4, 5, 6, 7] rfl)
          · skip
            have c_80624_i := Int32.lt_iff_toInt_lt.mp (Int32.not_le.mp c_80624)
            have h_80626 : 1 ≤ (v_80623 : Int32).toInt ∧ (v_80623 : Int32).toInt ≤ 1 := nr_lt_r (⟨by decide, by decide⟩ : 0 ≤ (0 : Int32).toInt ∧ (0 : Int32).toInt ≤ 0) h_v_80623 c_80624_i (by decide) (by decide)
            refine lv_iload hx hb dX6_betterWay_84 (lv_at hl 1 rfl) ?_
            refine lv_istore (lv' := [(5, .int x_80608), (7, .long w_80621), (6, .int x_80608), (4, .int (-1)), (0, .ref sv), (1, .int p0), (2, .int p1), (3, .ref vs)]) hx hb dX6_betterWay_86 hl (by decide) rfl (fun ls hl => ?_)
            obtain ⟨v_80628, v_80628_e⟩ : ∃ y : Int32, y = x_80608 + Int32.ofInt 1 := ⟨_, rfl⟩
            have h_v_80628 : 1 ≤ (v_80628 : Int32).toInt ∧ (v_80628 : Int32).toInt ≤ 3 := by rw [v_80628_e]; exact tr_add h_80613 (⟨by decide, by decide⟩ : 1 ≤ (Int32.ofInt 1 : Int32).toInt ∧ (Int32.ofInt 1 : Int32).toInt ≤ 1) (by decide) (by decide) (by decide) (by decide)
            have q_v_80628 : v_80628.toInt = x_80608.toInt + 1 := by rw [v_80628_e]; exact tr_addE h_80613 (⟨by decide, by decide⟩ : 1 ≤ (Int32.ofInt 1 : Int32).toInt ∧ (Int32.ofInt 1 : Int32).toInt ≤ 1) (by decide) (by decide)
            refine lv_iinc (v := v_80628) (lv' := [(6, .int v_80628), (5, .int x_80608), (7, .long w_80621), (4, .int (-1)), (0, .ref sv), (1, .int p0), (2, .int p1), (3, .ref vs)]) hx hb dX6_betterWay_88 hl (k := 2) rfl v_80628_e.symm (by decide) rfl (fun ls hl => ?_)
            refine lv_goto (tgt := 26) hx hb dX6_betterWay_91 (by decide) ?_
            exact ih_80610 v_80628 x_80608 ls (tr_w h_v_80628 (by decide) (by decide)) (tr_w h_80613 (by decide) (by decide)) (by (first | (clear h_p0 h_p1 h_n_nodes h_v_80529 h_x_80609 hw_80616 hw_80619 h_v_80623 c_80624_i h_80626; omega) | omega)) (lv_sub hl [0, 1, 3, 4, 5, 6, 7] rfl)
    exact lp_80610 4 0 p1 ls (⟨by decide, by decide⟩ : 0 ≤ (0 : Int32).toInt ∧ (0 : Int32).toInt ≤ 3) (tr_w h_p1 (by decide) (by decide)) (by decide) (lv_sub hl [0, 1, 2, 3, 4, 5, 6] rfl)
  · skip
    have c_80530_i : (v_80529 : Int32).toInt = (1 : Int32).toInt := congrArg Int32.toInt c_80530
    have h_80531 : 1 ≤ (v_80529 : Int32).toInt ∧ (v_80529 : Int32).toInt ≤ 1 := nr_eq_l h_v_80529 (⟨by decide, by decide⟩ : 1 ≤ (1 : Int32).toInt ∧ (1 : Int32).toInt ≤ 1) c_80530_i (by decide) (by decide)
    refine lv_iconst (v := 1) hx hb dX6_betterWay_13 (by decide) ?_
    refine lv_goto (tgt := 18) hx hb dX6_betterWay_14 (by decide) ?_
    refine lv_istore (lv' := [(4, .int 1), (0, .ref sv), (1, .int p0), (2, .int p1), (3, .ref vs)]) hx hb dX6_betterWay_18 hl (by decide) rfl (fun ls hl => ?_)
    refine lv_iload_n hx hb dX6_betterWay_20 rfl (lv_at hl 3 rfl) ?_
    refine lv_istore (lv' := [(5, .int p1), (4, .int 1), (0, .ref sv), (1, .int p0), (2, .int p1), (3, .ref vs)]) hx hb dX6_betterWay_21 hl (by decide) rfl (fun ls hl => ?_)
    refine lv_iconst (v := 0) hx hb dX6_betterWay_23 (by decide) ?_
    refine lv_istore (lv' := [(6, .int 0), (5, .int p1), (4, .int 1), (0, .ref sv), (1, .int p0), (2, .int p1), (3, .ref vs)]) hx hb dX6_betterWay_24 hl (by decide) rfl (fun ls hl => ?_)
    have lp_80707 : ∀ (n_80707 : Nat) (x_80705 : Int32) (x_80706 : Int32) (ls : Array Slot), (0 ≤ (x_80705 : Int32).toInt ∧ (x_80705 : Int32).toInt ≤ 3) → (0 ≤ (x_80706 : Int32).toInt ∧ (x_80706 : Int32).toInt ≤ 2) → (3 - x_80705.toInt < (n_80707 : Int)) → lv_has ls 9 [(6, .int x_80705), (5, .int x_80706), (4, .int 1), (0, .ref sv), (1, .int p0), (2, .int p1), (3, .ref vs)] → W p l e (headSpec (.code yX6_betterWay cX6_betterWay 9 (some .int) :: wsL_law) ({ frames := 1, cells := 0, slots := 0, locals := 22 })).room s m args below meth c s.heap [] 0 0 (MQ below (vp_Si (fun r => 0 ≤ (r : Int32).toInt ∧ (r : Int32).toInt ≤ 2)) args s 0 0 (fun _ => False)) (F0 m 26 ls []) := by
      intro n_80707
      induction n_80707 with
      | zero =>
        intro x_80705 x_80706 ls h_x_80705 h_x_80706 hm_80707 hl
        exfalso; omega
      | succ n_80707 ih_80707 =>
        intro x_80705 x_80706 ls h_x_80705 h_x_80706 hm_80707 hl
        refine lv_iload hx hb dX6_betterWay_26 (lv_at hl 0 rfl) ?_
        refine lv_aload_n hx hb dX6_betterWay_28 rfl (lv_at hl 3 rfl) ?_
        refine va_get (D := D) (ci := 6) (v := .ref n) (C := RX6) (T := TX6) (N := 4) hx hb hts inlX6 hown hK hP 0 rfl rfl 0 (by decide) (hts (Cond.fieldLink RX6 19 "ChanceRings$Solver" "net" "LChanceRings$Net;") qw_548) (fun _ h9 => h9) rfl dX6_betterWay_29 ?_
        refine va_get (D := D) (ci := 2) (v := .ref n_ways) (C := RX2) (T := TX2) (N := 8) hx hb hts inlX2 hown hK hP 1 rfl rfl 4 (by decide) (hts (Cond.fieldLink RX6 68 "ChanceRings$Net" "ways" "[I") qw_552) (fun _ h9 => h9) rfl dX6_betterWay_32 ?_
        refine lv_iload_n hx hb dX6_betterWay_35 rfl (lv_at hl 4 rfl) ?_
        refine va_iald hx hb hK hP 3 0 rfl rfl (tr_in h_p0 (by decide) (by decide)) dX6_betterWay_36 ?_
        refine lv_topi (fun v_80708 v_80708_e => ?_)
        have h_v_80708 : 0 ≤ (v_80708 : Int32).toInt ∧ (v_80708 : Int32).toInt ≤ 3 := by rw [v_80708_e]; exact h_n_fways _
        refine lv_icmp_ge (tgt := 94) hx hb dX6_betterWay_37 (by decide) (fun c_80709 => ?_) (fun c_80709 => ?_)
        · skip
          refine lv_iload hx hb dX6_betterWay_94 (lv_at hl 1 rfl) ?_
          exact W.iret (v := x_80706) hx hb hr (fun t ht hW => ⟨x_80706, rfl, (tr_w h_x_80706 (by decide) (by decide)), ht⟩) (fun _ h => nomatch h) dX6_betterWay_96
        · skip
          have c_80709_i := Int32.lt_iff_toInt_lt.mp (Int32.not_le.mp c_80709)
          have h_80710 : 0 ≤ (x_80705 : Int32).toInt ∧ (x_80705 : Int32).toInt ≤ 2 := nr_lt_l h_x_80705 h_v_80708 c_80709_i (by decide) (by decide)
          have h_80711 : 1 ≤ (v_80708 : Int32).toInt ∧ (v_80708 : Int32).toInt ≤ 3 := nr_lt_r h_x_80705 h_v_80708 c_80709_i (by decide) (by decide)
          refine lv_aload_n hx hb dX6_betterWay_40 rfl (lv_at hl 6 rfl) ?_
          refine va_get (D := D) (ci := 10) (v := .ref vs_part) (C := RX10) (T := TX10) (N := 2) hx hb hts inlX10 hown hK hP 5 rfl rfl 0 (by decide) (hts (Cond.fieldLink RX6 71 "ChanceRings$Values" "part" "[J") qw_553) (fun _ h9 => h9) rfl dX6_betterWay_41 ?_
          refine lv_aload_n hx hb dX6_betterWay_44 rfl (lv_at hl 3 rfl) ?_
          refine va_get (D := D) (ci := 6) (v := .ref n) (C := RX6) (T := TX6) (N := 4) hx hb hts inlX6 hown hK hP 0 rfl rfl 0 (by decide) (hts (Cond.fieldLink RX6 19 "ChanceRings$Solver" "net" "LChanceRings$Net;") qw_548) (fun _ h9 => h9) rfl dX6_betterWay_45 ?_
          refine lv_iload_n hx hb dX6_betterWay_48 rfl (lv_at hl 4 rfl) ?_
          refine lv_iload hx hb dX6_betterWay_49 (lv_at hl 0 rfl) ?_
          have hPc := hP.sub (ws' := [(wO2 n n_nodes n_kind n_pay n_name n_ways n_held n_targets n_weights), (wI g n_targets 0 36 n_ftargets)]) [1, 4] rfl
          refine vp_callSi (va_Run.run (va_runV (As := [.int p0, .int x_80705]) (rest := [.ref vs_part]) ⟨hx, hb, hml, hown, hts⟩ (c_X2_target l D g n p0 x_80705 n_nodes n_kind n_pay n_name n_ways n_held n_targets n_weights n_ftargets (tr_w h_p0 (by decide) (by decide)) (tr_w h_80710 (by decide) (by decide)) (tr_w h_n_nodes (by decide) (by decide)) (tr_wa h_n_ftargets (by decide) (by decide))) (cwV 2 hts (tz_gV qw_554 qw_325 qw_326 qw_322 qw_327) rfl rfl rfl (by decide +kernel) ⟨Nat.le_of_ble_eq_true rfl, Nat.le_of_ble_eq_true rfl⟩) ⟨tz_blS, va_recv hK hPc (ci := 2) (q0 := 0) rfl rfl, tz_preS hPc hK⟩ rfl rfl hl.1 rfl (lv_room (Nat.le_of_ble_eq_true rfl)) dX6_betterWay_51 ⟨Nat.le_of_ble_eq_true rfl, Nat.le_of_ble_eq_true rfl⟩)) (fun r_80712 hw => ?_)
          have hw_80713 : 0 ≤ (r_80712 : Int32).toInt ∧ (r_80712 : Int32).toInt ≤ 11 := hw
          refine va_lald hx hb hK hP 6 1 rfl rfl (tr_in hw_80713 (by decide) (by decide)) dX6_betterWay_54 ?_
          refine lv_topl (fun w_80714 _ => ?_)
          refine lv_aload_n hx hb dX6_betterWay_55 rfl (lv_at hl 6 rfl) ?_
          refine va_get (D := D) (ci := 10) (v := .ref vs_part) (C := RX10) (T := TX10) (N := 2) hx hb hts inlX10 hown hK hP 5 rfl rfl 0 (by decide) (hts (Cond.fieldLink RX6 71 "ChanceRings$Values" "part" "[J") qw_553) (fun _ h9 => h9) rfl dX6_betterWay_56 ?_
          refine lv_aload_n hx hb dX6_betterWay_59 rfl (lv_at hl 3 rfl) ?_
          refine va_get (D := D) (ci := 6) (v := .ref n) (C := RX6) (T := TX6) (N := 4) hx hb hts inlX6 hown hK hP 0 rfl rfl 0 (by decide) (hts (Cond.fieldLink RX6 19 "ChanceRings$Solver" "net" "LChanceRings$Net;") qw_548) (fun _ h9 => h9) rfl dX6_betterWay_60 ?_
          refine lv_iload_n hx hb dX6_betterWay_63 rfl (lv_at hl 4 rfl) ?_
          refine lv_iload hx hb dX6_betterWay_64 (lv_at hl 1 rfl) ?_
          have hPc := hP.sub (ws' := [(wO2 n n_nodes n_kind n_pay n_name n_ways n_held n_targets n_weights), (wI g n_targets 0 36 n_ftargets)]) [1, 4] rfl
          refine vp_callSi (va_Run.run (va_runV (As := [.int p0, .int x_80706]) (rest := [.ref vs_part, .long w_80714]) ⟨hx, hb, hml, hown, hts⟩ (c_X2_target l D g n p0 x_80706 n_nodes n_kind n_pay n_name n_ways n_held n_targets n_weights n_ftargets (tr_w h_p0 (by decide) (by decide)) (tr_w h_x_80706 (by decide) (by decide)) (tr_w h_n_nodes (by decide) (by decide)) (tr_wa h_n_ftargets (by decide) (by decide))) (cwV 2 hts (tz_gV qw_554 qw_325 qw_326 qw_322 qw_327) rfl rfl rfl (by decide +kernel) ⟨Nat.le_of_ble_eq_true rfl, Nat.le_of_ble_eq_true rfl⟩) ⟨tz_blS, va_recv hK hPc (ci := 2) (q0 := 0) rfl rfl, tz_preS hPc hK⟩ rfl rfl hl.1 rfl (lv_room (Nat.le_of_ble_eq_true rfl)) dX6_betterWay_66 ⟨Nat.le_of_ble_eq_true rfl, Nat.le_of_ble_eq_true rfl⟩)) (fun r_80715 hw => ?_)
          have hw_80716 : 0 ≤ (r_80715 : Int32).toInt ∧ (r_80715 : Int32).toInt ≤ 11 := hw
          refine va_lald hx hb hK hP 6 1 rfl rfl (tr_in hw_80716 (by decide) (by decide)) dX6_betterWay_69 ?_
          refine lv_topl (fun w_80717 _ => ?_)
          refine lv_lsub hx hb dX6_betterWay_70 ?_
          refine lv_topl (fun w_80718 _ => ?_)
          refine lv_lstore (lv' := [(7, .long w_80718), (6, .int x_80705), (5, .int x_80706), (4, .int 1), (0, .ref sv), (1, .int p0), (2, .int p1), (3, .ref vs)]) hx hb dX6_betterWay_71 hl (by decide) rfl (fun ls hl => ?_)
          refine lv_iload hx hb dX6_betterWay_73 (lv_at hl 3 rfl) ?_
          refine lv_i2l (v := 1) hx hb dX6_betterWay_75 (by decide +kernel) ?_
          refine lv_lload hx hb dX6_betterWay_76 (lv_at hl 0 rfl) ?_
          refine lv_lmul hx hb dX6_betterWay_78 ?_
          refine lv_topl (fun w_80719 _ => ?_)
          refine lv_lconst (v := 0) hx hb dX6_betterWay_79 (by decide) ?_
          refine W.lcmp hx hb dX6_betterWay_80 ?_
          refine lv_topi (fun v_80720 v_80720_e => ?_)
          have h_v_80720 : (-1) ≤ (v_80720 : Int32).toInt ∧ (v_80720 : Int32).toInt ≤ 1 := by rw [v_80720_e]; exact tr_cmp _ _
          refine lv_if_le (tgt := 88) hx hb dX6_betterWay_81 (by decide) (fun c_80721 => ?_) (fun c_80721 => ?_)
          · skip
            have c_80721_i := Int32.le_iff_toInt_le.mp c_80721
            have h_80722 : (-1) ≤ (v_80720 : Int32).toInt ∧ (v_80720 : Int32).toInt ≤ 0 := nr_le_l h_v_80720 (⟨by decide, by decide⟩ : 0 ≤ (0 : Int32).toInt ∧ (0 : Int32).toInt ≤ 0) c_80721_i (by decide) (by decide)
            obtain ⟨v_80724, v_80724_e⟩ : ∃ y : Int32, y = x_80705 + Int32.ofInt 1 := ⟨_, rfl⟩
            have h_v_80724 : 1 ≤ (v_80724 : Int32).toInt ∧ (v_80724 : Int32).toInt ≤ 3 := by rw [v_80724_e]; exact tr_add h_80710 (⟨by decide, by decide⟩ : 1 ≤ (Int32.ofInt 1 : Int32).toInt ∧ (Int32.ofInt 1 : Int32).toInt ≤ 1) (by decide) (by decide) (by decide) (by decide)
            have q_v_80724 : v_80724.toInt = x_80705.toInt + 1 := by rw [v_80724_e]; exact tr_addE h_80710 (⟨by decide, by decide⟩ : 1 ≤ (Int32.ofInt 1 : Int32).toInt ∧ (Int32.ofInt 1 : Int32).toInt ≤ 1) (by decide) (by decide)
            refine lv_iinc (v := v_80724) (lv' := [(6, .int v_80724), (7, .long w_80718), (5, .int x_80706), (4, .int 1), (0, .ref sv), (1, .int p0), (2, .int p1), (3, .ref vs)]) hx hb dX6_betterWay_88 hl (k := 1) rfl v_80724_e.symm (by decide) rfl (fun ls hl => ?_)
            refine lv_goto (tgt := 26) hx hb dX6_betterWay_91 (by decide) ?_
            exact ih_80707 v_80724 x_80706 ls (tr_w h_v_80724 (by decide) (by decide)) (tr_w h_x_80706 (by decide) (by decide)) (by (first | (clear h_p0 h_p1 h_n_nodes h_v_80529 c_80530_i h_80531 hw_80713 hw_80716 h_v_80720 c_80721_i h_80722; omega) | omega)) (lv_sub hl [0, 2, 3, 4, 5, 6, 7] rfl)
          · skip
            have c_80721_i := Int32.lt_iff_toInt_lt.mp (Int32.not_le.mp c_80721)
            have h_80723 : 1 ≤ (v_80720 : Int32).toInt ∧ (v_80720 : Int32).toInt ≤ 1 := nr_lt_r (⟨by decide, by decide⟩ : 0 ≤ (0 : Int32).toInt ∧ (0 : Int32).toInt ≤ 0) h_v_80720 c_80721_i (by decide) (by decide)
            refine lv_iload hx hb dX6_betterWay_84 (lv_at hl 1 rfl) ?_
            refine lv_istore (lv' := [(5, .int x_80705), (7, .long w_80718), (6, .int x_80705), (4, .int 1), (0, .ref sv), (1, .int p0), (2, .int p1), (3, .ref vs)]) hx hb dX6_betterWay_86 hl (by decide) rfl (fun ls hl => ?_)
            obtain ⟨v_80725, v_80725_e⟩ : ∃ y : Int32, y = x_80705 + Int32.ofInt 1 := ⟨_, rfl⟩
            have h_v_80725 : 1 ≤ (v_80725 : Int32).toInt ∧ (v_80725 : Int32).toInt ≤ 3 := by rw [v_80725_e]; exact tr_add h_80710 (⟨by decide, by decide⟩ : 1 ≤ (Int32.ofInt 1 : Int32).toInt ∧ (Int32.ofInt 1 : Int32).toInt ≤ 1) (by decide) (by decide) (by decide) (by decide)
            have q_v_80725 : v_80725.toInt = x_80705.toInt + 1 := by rw [v_80725_e]; exact tr_addE h_80710 (⟨by decide, by decide⟩ : 1 ≤ (Int32.ofInt 1 : Int32).toInt ∧ (Int32.ofInt 1 : Int32).toInt ≤ 1) (by decide) (by decide)
            refine lv_iinc (v := v_80725) (lv' := [(6, .int v_80725), (5, .int x_80705), (7, .long w_80718), (4, .int 1), (0, .ref sv), (1, .int p0), (2, .int p1), (3, .ref vs)]) hx hb dX6_betterWay_88 hl (k := 2) rfl v_80725_e.symm (by decide) rfl (fun ls hl => ?_)
            refine lv_goto (tgt := 26) hx hb dX6_betterWay_91 (by decide) ?_
            exact ih_80707 v_80725 x_80705 ls (tr_w h_v_80725 (by decide) (by decide)) (tr_w h_80710 (by decide) (by decide)) (by (first | (clear h_p0 h_p1 h_n_nodes h_v_80529 c_80530_i h_80531 h_x_80706 hw_80713 hw_80716 h_v_80720 c_80721_i h_80723; omega) | omega)) (lv_sub hl [0, 1, 3, 4, 5, 6, 7] rfl)
    exact lp_80707 4 0 p1 ls (⟨by decide, by decide⟩ : 0 ≤ (0 : Int32).toInt ∧ (0 : Int32).toInt ≤ 3) (tr_w h_p1 (by decide) (by decide)) (by decide) (lv_sub hl [0, 1, 2, 3, 4, 5, 6] rfl)
set_option maxHeartbeats 4000000 in
set_option maxRecDepth 100000 in
theorem c_X6_turnOpen (l : Launch) (D : va_G) (g : Nat → ClassId) (sz : Nat) (sv : Nat) (p0 : Int32) (pl : Nat) (vs : Nat) (p3 : Int32) (n : Nat) (co : Nat) (sv_keep : Nat) (sv_scaled : Nat) (n_nodes : Int32) (n_kind : Nat) (n_pay : Nat) (n_name : Nat) (n_ways : Nat) (n_held : Nat) (n_targets : Nat) (n_weights : Nat) (n_fkind : Nat → Int32) (n_fways : Nat → Int32) (n_fheld : Nat → Int32) (n_ftargets : Nat → Int32) (vs_part : Nat) (vsw : Int64) (vsp : Nat → Int64) (plf : Nat → Int32) (h_n_nodes : 0 ≤ (n_nodes : Int32).toInt ∧ (n_nodes : Int32).toInt ≤ 12) (h_n_fkind : ∀ j : Nat, 0 ≤ (n_fkind j).toInt ∧ (n_fkind j).toInt ≤ 3) (h_n_fways : ∀ j : Nat, 0 ≤ (n_fways j).toInt ∧ (n_fways j).toInt ≤ 3) (h_n_fheld : ∀ j : Nat, (-1) ≤ (n_fheld j).toInt ∧ (n_fheld j).toInt ≤ 2) (h_n_ftargets : ∀ j : Nat, 0 ≤ (n_ftargets j).toInt ∧ (n_ftargets j).toInt ≤ 11) (h_plf : ∀ j : Nat, 0 ≤ (plf j).toInt ∧ (plf j).toInt ≤ 2) : Met l yX6_turnOpen (.code yX6_turnOpen cX6_turnOpen 8 (some .int) :: wsL_law) ({ frames := 2, cells := 0, slots := 0, locals := 50 }) (va_Pc [.ref sv, .int p0, .ref pl, .ref vs, .int p3] (fun U => U.heap.size = sz ∧ va_P D vwCl [(wO6 sv n co sv_keep sv_scaled), (wO2 n n_nodes n_kind n_pay n_name n_ways n_held n_targets n_weights), (wI g n_kind 0 12 n_fkind), (wI g n_ways 0 12 n_fways), (wI g n_held 0 12 n_fheld), (wI g n_targets 0 36 n_ftargets), (wO10 vs vs_part vsw), (wJ g vs_part 1 12 vsp), (wI g pl 0 12 plf)] U.heap ∧ va_K D vwCl (TY g) U ∧ va_D (fun _ => True) [(wO6 sv n co sv_keep sv_scaled), (wO2 n n_nodes n_kind n_pay n_name n_ways n_held n_targets n_weights), (wI g n_kind 0 12 n_fkind), (wI g n_ways 0 12 n_fways), (wI g n_held 0 12 n_fheld), (wI g n_targets 0 36 n_ftargets), (wO10 vs vs_part vsw), (wJ g vs_part 1 12 vsp), (wI g pl 0 12 plf)])) (va_Qi (fun r (_ : Unit) => True) (fun _ t => ∃ opl : Nat → Int32, (∀ j : Nat, 0 ≤ (opl j).toInt ∧ (opl j).toInt ≤ 2) ∧ va_P D vwCl [(wO6 sv n co sv_keep sv_scaled), (wO2 n n_nodes n_kind n_pay n_name n_ways n_held n_targets n_weights), (wI g n_kind 0 12 n_fkind), (wI g n_ways 0 12 n_fways), (wI g n_held 0 12 n_fheld), (wI g n_targets 0 36 n_ftargets), (wO10 vs vs_part vsw), (wJ g vs_part 1 12 vsp), (wI g pl 0 12 opl)] t.heap ∧ va_D (va_A [(wO6 sv n co sv_keep sv_scaled), (wO2 n n_nodes n_kind n_pay n_name n_ways n_held n_targets n_weights), (wI g n_kind 0 12 n_fkind), (wI g n_ways 0 12 n_fways), (wI g n_held 0 12 n_fheld), (wI g n_targets 0 36 n_ftargets), (wO10 vs vs_part vsw), (wJ g vs_part 1 12 vsp), (wI g pl 0 12 plf)] sz) [(wO6 sv n co sv_keep sv_scaled), (wO2 n n_nodes n_kind n_pay n_name n_ways n_held n_targets n_weights), (wI g n_kind 0 12 n_fkind), (wI g n_ways 0 12 n_fways), (wI g n_held 0 12 n_fheld), (wI g n_targets 0 36 n_ftargets), (wO10 vs vs_part vsw), (wJ g vs_part 1 12 vsp), (wI g pl 0 12 opl)]) (va_A [(wO6 sv n co sv_keep sv_scaled), (wO2 n n_nodes n_kind n_pay n_name n_ways n_held n_targets n_weights), (wI g n_kind 0 12 n_fkind), (wI g n_ways 0 12 n_fways), (wI g n_held 0 12 n_fheld), (wI g n_targets 0 36 n_ftargets), (wO10 vs vs_part vsw), (wJ g vs_part 1 12 vsp), (wI g pl 0 12 plf)] sz)) 0 0 (va_A [(wO6 sv n co sv_keep sv_scaled), (wO2 n n_nodes n_kind n_pay n_name n_ways n_held n_targets n_weights), (wI g n_kind 0 12 n_fkind), (wI g n_ways 0 12 n_fways), (wI g n_held 0 12 n_fheld), (wI g n_targets 0 36 n_ftargets), (wO10 vs vs_part vsw), (wJ g vs_part 1 12 vsp), (wI g pl 0 12 plf)] sz) := by
  refine Met.ofW (cc := cX6_turnOpen) (maxL := 8) (ret := (some .int)) (by decide) rfl ?_
  intro p e s m args below meth c s₁ B hml hv
  obtain ⟨ha, hsz, hP, hK, hD0⟩ := hv
  have hx := B.exec
  have hb := B.bytes
  have hr := B.returns
  have hts0 := atoms_spec (ws := (.code yX6_turnOpen cX6_turnOpen 8 (some .int) :: wsL_law)) B.pre
  have hts : ∀ w ∈ wsL_law, w.before args s = true := fun w h => hts0 w (List.mem_cons_of_mem _ h)
  have hown : s.vm.findClass RX6 = some m.cls := findClass_of_methodNamed B.named
  have hlocks := B.notSynchronized
  subst hsz
  have hD := hD0.self (sz := s.heap.size)
  generalize hAe : va_A [(wO6 sv n co sv_keep sv_scaled), (wO2 n n_nodes n_kind n_pay n_name n_ways n_held n_targets n_weights), (wI g n_kind 0 12 n_fkind), (wI g n_ways 0 12 n_fways), (wI g n_held 0 12 n_fheld), (wI g n_targets 0 36 n_ftargets), (wO10 vs vs_part vsw), (wJ g vs_part 1 12 vsp), (wI g pl 0 12 plf)] s.heap.size = A at hD ⊢
  have hA : ∀ q : Nat, s.heap.size ≤ q → A q := fun q h => by rw [← hAe]; exact Or.inr h
  have hS : va_S A s.heap s.heap [] := va_S.rf
  have hP : va_P D vwCl [(wO6 sv n co sv_keep sv_scaled), (wO2 n n_nodes n_kind n_pay n_name n_ways n_held n_targets n_weights), (wI g n_kind 0 12 n_fkind), (wI g n_ways 0 12 n_fways), (wI g n_held 0 12 n_fheld), (wI g n_targets 0 36 n_ftargets), (wO10 vs vs_part vsw), (wJ g vs_part 1 12 vsp), (wI g pl 0 12 plf)] s.heap := hP
  refine W.eq (g2 := entryFrame m ([.ref sv, .int p0, .ref pl, .ref vs, .int p3] : List Value).toArray 8) (by rw [ha]) ?_
  have hl := lv_entry ([.ref sv, .int p0, .ref pl, .ref vs, .int p3]) (n := 8) (Nat.le_of_ble_eq_true rfl)
  rw [lg_entry_eq]
  generalize (lg_sl ([.ref sv, .int p0, .ref pl, .ref vs, .int p3]) ++ List.replicate (8 - (lg_sl ([.ref sv, .int p0, .ref pl, .ref vs, .int p3])).length) Slot.unset).toArray = ls at hl ⊢
  have hl : lv_has ls 8 [(0, .ref sv), (1, .int p0), (2, .ref pl), (3, .ref vs), (4, .int p3)] := hl
  refine lv_iconst (v := 0) hx hb dX6_turnOpen_0 (by decide) ?_
  refine lv_istore (lv' := [(5, .int 0), (0, .ref sv), (1, .int p0), (2, .ref pl), (3, .ref vs), (4, .int p3)]) hx hb dX6_turnOpen_1 hl (by decide) rfl (fun ls hl => ?_)
  refine lv_iconst (v := 0) hx hb dX6_turnOpen_3 (by decide) ?_
  refine lv_istore (lv' := [(6, .int 0), (5, .int 0), (0, .ref sv), (1, .int p0), (2, .ref pl), (3, .ref vs), (4, .int p3)]) hx hb dX6_turnOpen_4 hl (by decide) rfl (fun ls hl => ?_)
  have lp_81341 : ∀ (n_81341 : Nat) (x_81338 : Int32) (x_81339 : Int32) (f_81340 : Nat → Int32) (H : Heap) (locs : List Loc) (ls : Array Slot), (0 ≤ (x_81338 : Int32).toInt ∧ (x_81338 : Int32).toInt ≤ 12) → (∀ j : Nat, 0 ≤ (f_81340 j).toInt ∧ (f_81340 j).toInt ≤ 2) → (12 - x_81338.toInt < (n_81341 : Int)) → va_P D vwCl [(wO6 sv n co sv_keep sv_scaled), (wO2 n n_nodes n_kind n_pay n_name n_ways n_held n_targets n_weights), (wI g n_kind 0 12 n_fkind), (wI g n_ways 0 12 n_fways), (wI g n_held 0 12 n_fheld), (wI g n_targets 0 36 n_ftargets), (wO10 vs vs_part vsw), (wJ g vs_part 1 12 vsp), (wI g pl 0 12 f_81340)] H → va_D A [(wO6 sv n co sv_keep sv_scaled), (wO2 n n_nodes n_kind n_pay n_name n_ways n_held n_targets n_weights), (wI g n_kind 0 12 n_fkind), (wI g n_ways 0 12 n_fways), (wI g n_held 0 12 n_fheld), (wI g n_targets 0 36 n_ftargets), (wO10 vs vs_part vsw), (wJ g vs_part 1 12 vsp), (wI g pl 0 12 f_81340)] → va_S A s.heap H locs → lv_has ls 8 [(6, .int x_81338), (5, .int x_81339), (0, .ref sv), (1, .int p0), (2, .ref pl), (3, .ref vs), (4, .int p3)] → W p l e (headSpec (.code yX6_turnOpen cX6_turnOpen 8 (some .int) :: wsL_law) ({ frames := 2, cells := 0, slots := 0, locals := 50 })).room s m args below meth c H locs 0 0 (MQ below (va_Qi (fun r (_ : Unit) => True) (fun _ t => ∃ opl : Nat → Int32, (∀ j : Nat, 0 ≤ (opl j).toInt ∧ (opl j).toInt ≤ 2) ∧ va_P D vwCl [(wO6 sv n co sv_keep sv_scaled), (wO2 n n_nodes n_kind n_pay n_name n_ways n_held n_targets n_weights), (wI g n_kind 0 12 n_fkind), (wI g n_ways 0 12 n_fways), (wI g n_held 0 12 n_fheld), (wI g n_targets 0 36 n_ftargets), (wO10 vs vs_part vsw), (wJ g vs_part 1 12 vsp), (wI g pl 0 12 opl)] t.heap ∧ va_D A [(wO6 sv n co sv_keep sv_scaled), (wO2 n n_nodes n_kind n_pay n_name n_ways n_held n_targets n_weights), (wI g n_kind 0 12 n_fkind), (wI g n_ways 0 12 n_fways), (wI g n_held 0 12 n_fheld), (wI g n_targets 0 36 n_ftargets), (wO10 vs vs_part vsw), (wJ g vs_part 1 12 vsp), (wI g pl 0 12 opl)]) A) args s 0 0 A) (F0 m 6 ls []) := by
    intro n_81341
    induction n_81341 with
    | zero =>
      intro x_81338 x_81339 f_81340 H locs ls h_x_81338 h_f_81340 hm_81341 hP hD hS hl
      exfalso; omega
    | succ n_81341 ih_81341 =>
      intro x_81338 x_81339 f_81340 H locs ls h_x_81338 h_f_81340 hm_81341 hP hD hS hl
      refine lv_iload hx hb dX6_turnOpen_6 (lv_at hl 0 rfl) ?_
      refine lv_aload_n hx hb dX6_turnOpen_8 rfl (lv_at hl 2 rfl) ?_
      refine va_get (D := D) (ci := 6) (v := .ref n) (C := RX6) (T := TX6) (N := 4) hx hb hts inlX6 hown hK hP 0 rfl rfl 0 (by decide) (hts (Cond.fieldLink RX6 19 "ChanceRings$Solver" "net" "LChanceRings$Net;") qw_548) (fun _ h9 => h9) rfl dX6_turnOpen_9 ?_
      refine va_get (D := D) (ci := 2) (v := .int n_nodes) (C := RX2) (T := TX2) (N := 8) hx hb hts inlX2 hown hK hP 1 rfl rfl 0 (by decide) (hts (Cond.fieldLink RX6 32 "ChanceRings$Net" "nodes" "I") qw_549) (fun _ h9 => h9) rfl dX6_turnOpen_12 ?_
      refine lv_icmp_ge (tgt := 93) hx hb dX6_turnOpen_15 (by decide) (fun c_81342 => ?_) (fun c_81342 => ?_)
      · skip
        refine lv_iload hx hb dX6_turnOpen_93 (lv_at hl 1 rfl) ?_
        have hP9 := hP.sub (ws' := [(wO6 sv n co sv_keep sv_scaled), (wO2 n n_nodes n_kind n_pay n_name n_ways n_held n_targets n_weights), (wI g n_kind 0 12 n_fkind), (wI g n_ways 0 12 n_fways), (wI g n_held 0 12 n_fheld), (wI g n_targets 0 36 n_ftargets), (wO10 vs vs_part vsw), (wJ g vs_part 1 12 vsp), (wI g pl 0 12 f_81340)]) [0, 1, 2, 3, 4, 5, 6, 7, 8] rfl
        have hD9 := hD.sub (ws' := [(wO6 sv n co sv_keep sv_scaled), (wO2 n n_nodes n_kind n_pay n_name n_ways n_held n_targets n_weights), (wI g n_kind 0 12 n_fkind), (wI g n_ways 0 12 n_fways), (wI g n_held 0 12 n_fheld), (wI g n_targets 0 36 n_ftargets), (wO10 vs vs_part vsw), (wJ g vs_part 1 12 vsp), (wI g pl 0 12 f_81340)]) [0, 1, 2, 3, 4, 5, 6, 7, 8] (by decide) rfl
        exact W.iret (v := x_81339) hx hb hr (fun t ht hW => ⟨⟨x_81339, (), rfl, trivial, f_81340, (tr_wa h_f_81340 (by decide) (by decide)), by rw [ht]; exact hP9, hD9⟩, hS.F ht⟩) hS.2.2 dX6_turnOpen_95
      · skip
        have c_81342_i := Int32.lt_iff_toInt_lt.mp (Int32.not_le.mp c_81342)
        have h_81343 : 0 ≤ (x_81338 : Int32).toInt ∧ (x_81338 : Int32).toInt ≤ 11 := nr_lt_l h_x_81338 h_n_nodes c_81342_i (by decide) (by decide)
        have h_81344 : 1 ≤ (n_nodes : Int32).toInt ∧ (n_nodes : Int32).toInt ≤ 12 := nr_lt_r h_x_81338 h_n_nodes c_81342_i (by decide) (by decide)
        refine lv_aload_n hx hb dX6_turnOpen_18 rfl (lv_at hl 2 rfl) ?_
        refine va_get (D := D) (ci := 6) (v := .ref n) (C := RX6) (T := TX6) (N := 4) hx hb hts inlX6 hown hK hP 0 rfl rfl 0 (by decide) (hts (Cond.fieldLink RX6 19 "ChanceRings$Solver" "net" "LChanceRings$Net;") qw_548) (fun _ h9 => h9) rfl dX6_turnOpen_19 ?_
        refine va_get (D := D) (ci := 2) (v := .ref n_kind) (C := RX2) (T := TX2) (N := 8) hx hb hts inlX2 hown hK hP 1 rfl rfl 1 (by decide) (hts (Cond.fieldLink RX6 61 "ChanceRings$Net" "kind" "[I") qw_551) (fun _ h9 => h9) rfl dX6_turnOpen_22 ?_
        refine lv_iload hx hb dX6_turnOpen_25 (lv_at hl 0 rfl) ?_
        refine va_iald hx hb hK hP 2 0 rfl rfl (tr_in h_81343 (by decide) (by decide)) dX6_turnOpen_27 ?_
        refine lv_topi (fun v_81345 v_81345_e => ?_)
        have h_v_81345 : 0 ≤ (v_81345 : Int32).toInt ∧ (v_81345 : Int32).toInt ≤ 3 := by rw [v_81345_e]; exact h_n_fkind _
        refine lv_iload_n hx hb dX6_turnOpen_28 rfl (lv_at hl 3 rfl) ?_
        refine lv_icmp_ne (tgt := 87) hx hb dX6_turnOpen_29 (by decide) (fun c_81346 => ?_) (fun c_81346 => ?_)
        · skip
          obtain ⟨v_81347, v_81347_e⟩ : ∃ y : Int32, y = x_81338 + Int32.ofInt 1 := ⟨_, rfl⟩
          have h_v_81347 : 1 ≤ (v_81347 : Int32).toInt ∧ (v_81347 : Int32).toInt ≤ 12 := by rw [v_81347_e]; exact tr_add h_81343 (⟨by decide, by decide⟩ : 1 ≤ (Int32.ofInt 1 : Int32).toInt ∧ (Int32.ofInt 1 : Int32).toInt ≤ 1) (by decide) (by decide) (by decide) (by decide)
          have q_v_81347 : v_81347.toInt = x_81338.toInt + 1 := by rw [v_81347_e]; exact tr_addE h_81343 (⟨by decide, by decide⟩ : 1 ≤ (Int32.ofInt 1 : Int32).toInt ∧ (Int32.ofInt 1 : Int32).toInt ≤ 1) (by decide) (by decide)
          refine lv_iinc (v := v_81347) (lv' := [(6, .int v_81347), (5, .int x_81339), (0, .ref sv), (1, .int p0), (2, .ref pl), (3, .ref vs), (4, .int p3)]) hx hb dX6_turnOpen_87 hl (k := 0) rfl v_81347_e.symm (by decide) rfl (fun ls hl => ?_)
          refine lv_goto (tgt := 6) hx hb dX6_turnOpen_90 (by decide) ?_
          exact ih_81341 v_81347 x_81339 f_81340 H _ ls (tr_w h_v_81347 (by decide) (by decide)) (tr_wa h_f_81340 (by decide) (by decide)) (by omega) (hP.sub [0, 1, 2, 3, 4, 5, 6, 7, 8] rfl) (hD.sub [0, 1, 2, 3, 4, 5, 6, 7, 8] (by decide) rfl) hS (lv_sub hl [0, 1, 2, 3, 4, 5, 6] rfl)
        · skip
          refine lv_aload_n hx hb dX6_turnOpen_32 rfl (lv_at hl 2 rfl) ?_
          refine va_get (D := D) (ci := 6) (v := .ref n) (C := RX6) (T := TX6) (N := 4) hx hb hts inlX6 hown hK hP 0 rfl rfl 0 (by decide) (hts (Cond.fieldLink RX6 19 "ChanceRings$Solver" "net" "LChanceRings$Net;") qw_548) (fun _ h9 => h9) rfl dX6_turnOpen_33 ?_
          refine va_get (D := D) (ci := 2) (v := .ref n_held) (C := RX2) (T := TX2) (N := 8) hx hb hts inlX2 hown hK hP 1 rfl rfl 5 (by decide) (hts (Cond.fieldLink RX6 38 "ChanceRings$Net" "held" "[I") qw_550) (fun _ h9 => h9) rfl dX6_turnOpen_36 ?_
          refine lv_iload hx hb dX6_turnOpen_39 (lv_at hl 0 rfl) ?_
          refine va_iald hx hb hK hP 4 0 rfl rfl (tr_in h_81343 (by decide) (by decide)) dX6_turnOpen_41 ?_
          refine lv_topi (fun v_81348 v_81348_e => ?_)
          have h_v_81348 : (-1) ≤ (v_81348 : Int32).toInt ∧ (v_81348 : Int32).toInt ≤ 2 := by rw [v_81348_e]; exact h_n_fheld _
          refine lv_iconst (v := (-1)) hx hb dX6_turnOpen_42 (by decide) ?_
          refine lv_icmp_ne (tgt := 87) hx hb dX6_turnOpen_43 (by decide) (fun c_81349 => ?_) (fun c_81349 => ?_)
          · skip
            have c_81349_i : ¬ (v_81348 : Int32).toInt = ((-1) : Int32).toInt := (fun q => c_81349 (Int32.toInt_inj.mp q))
            have h_81350 : 0 ≤ (v_81348 : Int32).toInt ∧ (v_81348 : Int32).toInt ≤ 2 := nr_ne_l h_v_81348 (⟨by decide, by decide⟩ : (-1) ≤ ((-1) : Int32).toInt ∧ ((-1) : Int32).toInt ≤ (-1)) c_81349_i (by decide) (by decide)
            obtain ⟨v_81352, v_81352_e⟩ : ∃ y : Int32, y = x_81338 + Int32.ofInt 1 := ⟨_, rfl⟩
            have h_v_81352 : 1 ≤ (v_81352 : Int32).toInt ∧ (v_81352 : Int32).toInt ≤ 12 := by rw [v_81352_e]; exact tr_add h_81343 (⟨by decide, by decide⟩ : 1 ≤ (Int32.ofInt 1 : Int32).toInt ∧ (Int32.ofInt 1 : Int32).toInt ≤ 1) (by decide) (by decide) (by decide) (by decide)
            have q_v_81352 : v_81352.toInt = x_81338.toInt + 1 := by rw [v_81352_e]; exact tr_addE h_81343 (⟨by decide, by decide⟩ : 1 ≤ (Int32.ofInt 1 : Int32).toInt ∧ (Int32.ofInt 1 : Int32).toInt ≤ 1) (by decide) (by decide)
            refine lv_iinc (v := v_81352) (lv' := [(6, .int v_81352), (5, .int x_81339), (0, .ref sv), (1, .int p0), (2, .ref pl), (3, .ref vs), (4, .int p3)]) hx hb dX6_turnOpen_87 hl (k := 0) rfl v_81352_e.symm (by decide) rfl (fun ls hl => ?_)
            refine lv_goto (tgt := 6) hx hb dX6_turnOpen_90 (by decide) ?_
            exact ih_81341 v_81352 x_81339 f_81340 H _ ls (tr_w h_v_81352 (by decide) (by decide)) (tr_wa h_f_81340 (by decide) (by decide)) (by (first | (clear h_v_81345 h_v_81348 c_81349_i h_81350; omega) | omega)) (hP.sub [0, 1, 2, 3, 4, 5, 6, 7, 8] rfl) (hD.sub [0, 1, 2, 3, 4, 5, 6, 7, 8] (by decide) rfl) hS (lv_sub hl [0, 1, 2, 3, 4, 5, 6] rfl)
          · skip
            have c_81349_i : (v_81348 : Int32).toInt = ((-1) : Int32).toInt := congrArg Int32.toInt c_81349
            have h_81351 : (-1) ≤ (v_81348 : Int32).toInt ∧ (v_81348 : Int32).toInt ≤ (-1) := nr_eq_l h_v_81348 (⟨by decide, by decide⟩ : (-1) ≤ ((-1) : Int32).toInt ∧ ((-1) : Int32).toInt ≤ (-1)) c_81349_i (by decide) (by decide)
            refine lv_iload hx hb dX6_turnOpen_46 (lv_at hl 6 rfl) ?_
            refine lv_iload hx hb dX6_turnOpen_48 (lv_at hl 0 rfl) ?_
            refine lv_ishr hx hb dX6_turnOpen_50 ?_
            refine lv_topi (fun v_81353 v_81353_e => ?_)
            refine lv_iconst (v := 1) hx hb dX6_turnOpen_51 (by decide) ?_
            refine lv_iand hx hb dX6_turnOpen_52 ?_
            refine lv_topi (fun v_81354 v_81354_e => ?_)
            refine lv_if_eq (tgt := 87) hx hb dX6_turnOpen_53 (by decide) (fun c_81355 => ?_) (fun c_81355 => ?_)
            · skip
              have h_81356 : 0 ≤ (v_81354 : Int32).toInt ∧ (v_81354 : Int32).toInt ≤ 0 := by rw [c_81355]; exact ⟨by decide, by decide⟩
              obtain ⟨v_81357, v_81357_e⟩ : ∃ y : Int32, y = x_81338 + Int32.ofInt 1 := ⟨_, rfl⟩
              have h_v_81357 : 1 ≤ (v_81357 : Int32).toInt ∧ (v_81357 : Int32).toInt ≤ 12 := by rw [v_81357_e]; exact tr_add h_81343 (⟨by decide, by decide⟩ : 1 ≤ (Int32.ofInt 1 : Int32).toInt ∧ (Int32.ofInt 1 : Int32).toInt ≤ 1) (by decide) (by decide) (by decide) (by decide)
              have q_v_81357 : v_81357.toInt = x_81338.toInt + 1 := by rw [v_81357_e]; exact tr_addE h_81343 (⟨by decide, by decide⟩ : 1 ≤ (Int32.ofInt 1 : Int32).toInt ∧ (Int32.ofInt 1 : Int32).toInt ≤ 1) (by decide) (by decide)
              refine lv_iinc (v := v_81357) (lv' := [(6, .int v_81357), (5, .int x_81339), (0, .ref sv), (1, .int p0), (2, .ref pl), (3, .ref vs), (4, .int p3)]) hx hb dX6_turnOpen_87 hl (k := 0) rfl v_81357_e.symm (by decide) rfl (fun ls hl => ?_)
              refine lv_goto (tgt := 6) hx hb dX6_turnOpen_90 (by decide) ?_
              exact ih_81341 v_81357 x_81339 f_81340 H _ ls (tr_w h_v_81357 (by decide) (by decide)) (tr_wa h_f_81340 (by decide) (by decide)) (by (first | (clear h_v_81345 h_v_81348 c_81349_i h_81351 h_81356; omega) | omega)) (hP.sub [0, 1, 2, 3, 4, 5, 6, 7, 8] rfl) (hD.sub [0, 1, 2, 3, 4, 5, 6, 7, 8] (by decide) rfl) hS (lv_sub hl [0, 1, 2, 3, 4, 5, 6] rfl)
            · skip
              refine lv_aload_n hx hb dX6_turnOpen_56 rfl (lv_at hl 2 rfl) ?_
              refine lv_iload hx hb dX6_turnOpen_57 (lv_at hl 0 rfl) ?_
              refine lv_aload_n hx hb dX6_turnOpen_59 rfl (lv_at hl 4 rfl) ?_
              refine lv_iload hx hb dX6_turnOpen_60 (lv_at hl 0 rfl) ?_
              refine va_iald hx hb hK hP 8 0 rfl rfl (tr_in h_81343 (by decide) (by decide)) dX6_turnOpen_62 ?_
              refine lv_topi (fun v_81358 v_81358_e => ?_)
              have h_v_81358 : 0 ≤ (v_81358 : Int32).toInt ∧ (v_81358 : Int32).toInt ≤ 2 := by rw [v_81358_e]; exact h_f_81340 _
              refine lv_aload_n hx hb dX6_turnOpen_63 rfl (lv_at hl 5 rfl) ?_
              have hPc := hP.sub (ws' := [(wO6 sv n co sv_keep sv_scaled), (wO2 n n_nodes n_kind n_pay n_name n_ways n_held n_targets n_weights), (wI g n_kind 0 12 n_fkind), (wI g n_ways 0 12 n_fways), (wI g n_targets 0 36 n_ftargets), (wO10 vs vs_part vsw), (wJ g vs_part 1 12 vsp)]) [0, 1, 2, 3, 5, 6, 7] rfl
              refine vp_callSi (va_Run.run (va_runV (As := [.int x_81338, .int v_81358, .ref vs]) (rest := []) ⟨hx, hb, hml, hown, hts⟩ (c_X6_betterWay l D g sv x_81338 v_81358 vs n co sv_keep sv_scaled n_nodes n_kind n_pay n_name n_ways n_held n_targets n_weights n_fkind n_fways n_ftargets vs_part vsw vsp (tr_w h_81343 (by decide) (by decide)) (tr_w h_v_81358 (by decide) (by decide)) (tr_w h_81344 (by decide) (by decide)) (tr_wa h_n_fkind (by decide) (by decide)) (tr_wa h_n_fways (by decide) (by decide)) (tr_wa h_n_ftargets (by decide) (by decide))) (cwV 3 hts (tz_gV qw_555 qw_556 qw_557 qw_558 qw_559) rfl rfl rfl (by decide +kernel) ⟨Nat.le_of_ble_eq_true rfl, Nat.le_of_ble_eq_true rfl⟩) ⟨tz_blS, va_recv hK hPc (ci := 6) (q0 := 0) rfl rfl, tz_preS hPc hK⟩ rfl rfl hl.1 rfl (lv_room (Nat.le_of_ble_eq_true rfl)) dX6_turnOpen_64 ⟨Nat.le_of_ble_eq_true rfl, Nat.le_of_ble_eq_true rfl⟩)) (fun r_81359 hw => ?_)
              have hw_81360 : 0 ≤ (r_81359 : Int32).toInt ∧ (r_81359 : Int32).toInt ≤ 2 := hw
              refine lv_istore (lv' := [(7, .int r_81359), (6, .int x_81338), (5, .int x_81339), (0, .ref sv), (1, .int p0), (2, .ref pl), (3, .ref vs), (4, .int p3)]) hx hb dX6_turnOpen_67 hl (by decide) rfl (fun ls hl => ?_)
              refine lv_iload hx hb dX6_turnOpen_69 (lv_at hl 0 rfl) ?_
              refine lv_aload_n hx hb dX6_turnOpen_71 rfl (lv_at hl 5 rfl) ?_
              refine lv_iload hx hb dX6_turnOpen_72 (lv_at hl 1 rfl) ?_
              refine va_iald hx hb hK hP 8 0 rfl rfl (tr_in h_81343 (by decide) (by decide)) dX6_turnOpen_74 ?_
              refine tz_i (y := v_81358) v_81358_e.symm ?_
              refine lv_icmp_eq (tgt := 87) hx hb dX6_turnOpen_75 (by decide) (fun c_81361 => ?_) (fun c_81361 => ?_)
              · skip
                obtain ⟨v_81362, v_81362_e⟩ : ∃ y : Int32, y = x_81338 + Int32.ofInt 1 := ⟨_, rfl⟩
                have h_v_81362 : 1 ≤ (v_81362 : Int32).toInt ∧ (v_81362 : Int32).toInt ≤ 12 := by rw [v_81362_e]; exact tr_add h_81343 (⟨by decide, by decide⟩ : 1 ≤ (Int32.ofInt 1 : Int32).toInt ∧ (Int32.ofInt 1 : Int32).toInt ≤ 1) (by decide) (by decide) (by decide) (by decide)
                have q_v_81362 : v_81362.toInt = x_81338.toInt + 1 := by rw [v_81362_e]; exact tr_addE h_81343 (⟨by decide, by decide⟩ : 1 ≤ (Int32.ofInt 1 : Int32).toInt ∧ (Int32.ofInt 1 : Int32).toInt ≤ 1) (by decide) (by decide)
                refine lv_iinc (v := v_81362) (lv' := [(6, .int v_81362), (7, .int r_81359), (5, .int x_81339), (0, .ref sv), (1, .int p0), (2, .ref pl), (3, .ref vs), (4, .int p3)]) hx hb dX6_turnOpen_87 hl (k := 1) rfl v_81362_e.symm (by decide) rfl (fun ls hl => ?_)
                refine lv_goto (tgt := 6) hx hb dX6_turnOpen_90 (by decide) ?_
                exact ih_81341 v_81362 x_81339 f_81340 H _ ls (tr_w h_v_81362 (by decide) (by decide)) (tr_wa h_f_81340 (by decide) (by decide)) (by (first | (clear h_v_81345 h_v_81348 c_81349_i h_81351 h_v_81358 hw_81360; omega) | omega)) (hP.sub [0, 1, 2, 3, 4, 5, 6, 7, 8] rfl) (hD.sub [0, 1, 2, 3, 4, 5, 6, 7, 8] (by decide) rfl) hS (lv_sub hl [0, 2, 3, 4, 5, 6, 7] rfl)
              · skip
                refine lv_aload_n hx hb dX6_turnOpen_78 rfl (lv_at hl 5 rfl) ?_
                refine lv_iload hx hb dX6_turnOpen_79 (lv_at hl 1 rfl) ?_
                refine lv_iload hx hb dX6_turnOpen_81 (lv_at hl 0 rfl) ?_
                refine va_iast hx hb hK hP hD hS 8 0 rfl rfl (tr_in h_81343 (by decide) (by decide)) dX6_turnOpen_83 (fun H locs hP hD hS => ?_)
                obtain ⟨f_81363, h_f_81363, hP, hD⟩ : ∃ FX : Nat → Int32, (∀ j : Nat, 0 ≤ (FX j).toInt ∧ (FX j).toInt ≤ 2) ∧ va_P D vwCl [(wO6 sv n co sv_keep sv_scaled), (wO2 n n_nodes n_kind n_pay n_name n_ways n_held n_targets n_weights), (wI g n_kind 0 12 n_fkind), (wI g n_ways 0 12 n_fways), (wI g n_held 0 12 n_fheld), (wI g n_targets 0 36 n_ftargets), (wO10 vs vs_part vsw), (wJ g vs_part 1 12 vsp), (wI g pl 0 12 FX)] H ∧ va_D A [(wO6 sv n co sv_keep sv_scaled), (wO2 n n_nodes n_kind n_pay n_name n_ways n_held n_targets n_weights), (wI g n_kind 0 12 n_fkind), (wI g n_ways 0 12 n_fways), (wI g n_held 0 12 n_fheld), (wI g n_targets 0 36 n_ftargets), (wO10 vs vs_part vsw), (wJ g vs_part 1 12 vsp), (wI g pl 0 12 FX)] := ⟨_, tr_upd h_f_81340 (tr_w hw_81360 (by decide) (by decide)), hP, hD⟩
                have hP : va_P D vwCl [(wO6 sv n co sv_keep sv_scaled), (wO2 n n_nodes n_kind n_pay n_name n_ways n_held n_targets n_weights), (wI g n_kind 0 12 n_fkind), (wI g n_ways 0 12 n_fways), (wI g n_held 0 12 n_fheld), (wI g n_targets 0 36 n_ftargets), (wO10 vs vs_part vsw), (wJ g vs_part 1 12 vsp), (wI g pl 0 12 f_81363)] H := hP
                have hD : va_D A [(wO6 sv n co sv_keep sv_scaled), (wO2 n n_nodes n_kind n_pay n_name n_ways n_held n_targets n_weights), (wI g n_kind 0 12 n_fkind), (wI g n_ways 0 12 n_fways), (wI g n_held 0 12 n_fheld), (wI g n_targets 0 36 n_ftargets), (wO10 vs vs_part vsw), (wJ g vs_part 1 12 vsp), (wI g pl 0 12 f_81363)] := hD
                obtain ⟨v_81364, v_81364_e⟩ : ∃ y : Int32, y = x_81339 + Int32.ofInt 1 := ⟨_, rfl⟩
                refine lv_iinc (v := v_81364) (lv' := [(5, .int v_81364), (7, .int r_81359), (6, .int x_81338), (0, .ref sv), (1, .int p0), (2, .ref pl), (3, .ref vs), (4, .int p3)]) hx hb dX6_turnOpen_84 hl (k := 2) rfl v_81364_e.symm (by decide) rfl (fun ls hl => ?_)
                obtain ⟨v_81365, v_81365_e⟩ : ∃ y : Int32, y = x_81338 + Int32.ofInt 1 := ⟨_, rfl⟩
                have h_v_81365 : 1 ≤ (v_81365 : Int32).toInt ∧ (v_81365 : Int32).toInt ≤ 12 := by rw [v_81365_e]; exact tr_add h_81343 (⟨by decide, by decide⟩ : 1 ≤ (Int32.ofInt 1 : Int32).toInt ∧ (Int32.ofInt 1 : Int32).toInt ≤ 1) (by decide) (by decide) (by decide) (by decide)
                have q_v_81365 : v_81365.toInt = x_81338.toInt + 1 := by rw [v_81365_e]; exact tr_addE h_81343 (⟨by decide, by decide⟩ : 1 ≤ (Int32.ofInt 1 : Int32).toInt ∧ (Int32.ofInt 1 : Int32).toInt ≤ 1) (by decide) (by decide)
                refine lv_iinc (v := v_81365) (lv' := [(6, .int v_81365), (5, .int v_81364), (7, .int r_81359), (0, .ref sv), (1, .int p0), (2, .ref pl), (3, .ref vs), (4, .int p3)]) hx hb dX6_turnOpen_87 hl (k := 2) rfl v_81365_e.symm (by decide) rfl (fun ls hl => ?_)
                refine lv_goto (tgt := 6) hx hb dX6_turnOpen_90 (by decide) ?_
                exact ih_81341 v_81365 v_81364 f_81363 H _ ls (tr_w h_v_81365 (by decide) (by decide)) (tr_wa h_f_81363 (by decide) (by decide)) (by (first | (clear h_f_81340 h_v_81345 h_v_81348 c_81349_i h_81351 h_v_81358 hw_81360; omega) | omega)) (hP.sub [0, 1, 2, 3, 4, 5, 6, 7, 8] rfl) (hD.sub [0, 1, 2, 3, 4, 5, 6, 7, 8] (by decide) rfl) hS (lv_sub hl [0, 1, 3, 4, 5, 6, 7] rfl)
  exact lp_81341 13 0 0 plf s.heap _ ls (⟨by decide, by decide⟩ : 0 ≤ (0 : Int32).toInt ∧ (0 : Int32).toInt ≤ 12) (tr_wa h_plf (by decide) (by decide)) (by decide) (hP.sub [0, 1, 2, 3, 4, 5, 6, 7, 8] rfl) (hD.sub [0, 1, 2, 3, 4, 5, 6, 7, 8] (by decide) rfl) hS (lv_sub hl [0, 1, 2, 3, 4, 5, 6] rfl)
set_option maxHeartbeats 4000000 in
set_option maxRecDepth 100000 in
theorem c_X6_turn (l : Launch) (D : va_G) (g : Nat → ClassId) (sz : Nat) (sv : Nat) (p0 : Int32) (pl : Nat) (vs : Nat) (n : Nat) (co : Nat) (sv_keep : Nat) (sv_scaled : Nat) (n_nodes : Int32) (n_kind : Nat) (n_pay : Nat) (n_name : Nat) (n_ways : Nat) (n_held : Nat) (n_targets : Nat) (n_weights : Nat) (n_fkind : Nat → Int32) (n_fways : Nat → Int32) (n_fheld : Nat → Int32) (n_ftargets : Nat → Int32) (vs_part : Nat) (vsw : Int64) (vsp : Nat → Int64) (plf : Nat → Int32) (h_n_nodes : 0 ≤ (n_nodes : Int32).toInt ∧ (n_nodes : Int32).toInt ≤ 12) (h_n_fkind : ∀ j : Nat, 0 ≤ (n_fkind j).toInt ∧ (n_fkind j).toInt ≤ 3) (h_n_fways : ∀ j : Nat, 0 ≤ (n_fways j).toInt ∧ (n_fways j).toInt ≤ 3) (h_n_fheld : ∀ j : Nat, (-1) ≤ (n_fheld j).toInt ∧ (n_fheld j).toInt ≤ 2) (h_n_ftargets : ∀ j : Nat, 0 ≤ (n_ftargets j).toInt ∧ (n_ftargets j).toInt ≤ 11) (h_plf : ∀ j : Nat, 0 ≤ (plf j).toInt ∧ (plf j).toInt ≤ 2) : Met l yX6_turn (.code yX6_turn cX6_turn 4 (some .int) :: wsL_law) ({ frames := 3, cells := 0, slots := 0, locals := 77 }) (va_Pc [.ref sv, .int p0, .ref pl, .ref vs] (fun U => U.heap.size = sz ∧ va_P D vwCl [(wO6 sv n co sv_keep sv_scaled), (wO2 n n_nodes n_kind n_pay n_name n_ways n_held n_targets n_weights), (wI g n_kind 0 12 n_fkind), (wI g n_ways 0 12 n_fways), (wI g n_held 0 12 n_fheld), (wI g n_targets 0 36 n_ftargets), (wO10 vs vs_part vsw), (wJ g vs_part 1 12 vsp), (wI g pl 0 12 plf)] U.heap ∧ va_K D vwCl (TY g) U ∧ va_D (fun _ => True) [(wO6 sv n co sv_keep sv_scaled), (wO2 n n_nodes n_kind n_pay n_name n_ways n_held n_targets n_weights), (wI g n_kind 0 12 n_fkind), (wI g n_ways 0 12 n_fways), (wI g n_held 0 12 n_fheld), (wI g n_targets 0 36 n_ftargets), (wO10 vs vs_part vsw), (wJ g vs_part 1 12 vsp), (wI g pl 0 12 plf)])) (va_Qi (fun r (_ : Unit) => True) (fun _ t => ∃ opl : Nat → Int32, (∀ j : Nat, 0 ≤ (opl j).toInt ∧ (opl j).toInt ≤ 2) ∧ va_P D vwCl [(wO6 sv n co sv_keep sv_scaled), (wO2 n n_nodes n_kind n_pay n_name n_ways n_held n_targets n_weights), (wI g n_kind 0 12 n_fkind), (wI g n_ways 0 12 n_fways), (wI g n_held 0 12 n_fheld), (wI g n_targets 0 36 n_ftargets), (wO10 vs vs_part vsw), (wJ g vs_part 1 12 vsp), (wI g pl 0 12 opl)] t.heap ∧ va_D (va_A [(wO6 sv n co sv_keep sv_scaled), (wO2 n n_nodes n_kind n_pay n_name n_ways n_held n_targets n_weights), (wI g n_kind 0 12 n_fkind), (wI g n_ways 0 12 n_fways), (wI g n_held 0 12 n_fheld), (wI g n_targets 0 36 n_ftargets), (wO10 vs vs_part vsw), (wJ g vs_part 1 12 vsp), (wI g pl 0 12 plf)] sz) [(wO6 sv n co sv_keep sv_scaled), (wO2 n n_nodes n_kind n_pay n_name n_ways n_held n_targets n_weights), (wI g n_kind 0 12 n_fkind), (wI g n_ways 0 12 n_fways), (wI g n_held 0 12 n_fheld), (wI g n_targets 0 36 n_ftargets), (wO10 vs vs_part vsw), (wJ g vs_part 1 12 vsp), (wI g pl 0 12 opl)]) (va_A [(wO6 sv n co sv_keep sv_scaled), (wO2 n n_nodes n_kind n_pay n_name n_ways n_held n_targets n_weights), (wI g n_kind 0 12 n_fkind), (wI g n_ways 0 12 n_fways), (wI g n_held 0 12 n_fheld), (wI g n_targets 0 36 n_ftargets), (wO10 vs vs_part vsw), (wJ g vs_part 1 12 vsp), (wI g pl 0 12 plf)] sz)) 0 0 (va_A [(wO6 sv n co sv_keep sv_scaled), (wO2 n n_nodes n_kind n_pay n_name n_ways n_held n_targets n_weights), (wI g n_kind 0 12 n_fkind), (wI g n_ways 0 12 n_fways), (wI g n_held 0 12 n_fheld), (wI g n_targets 0 36 n_ftargets), (wO10 vs vs_part vsw), (wJ g vs_part 1 12 vsp), (wI g pl 0 12 plf)] sz) := by
  refine Met.ofW (cc := cX6_turn) (maxL := 4) (ret := (some .int)) (by decide) rfl ?_
  intro p e s m args below meth c s₁ B hml hv
  obtain ⟨ha, hsz, hP, hK, hD0⟩ := hv
  have hx := B.exec
  have hb := B.bytes
  have hr := B.returns
  have hts0 := atoms_spec (ws := (.code yX6_turn cX6_turn 4 (some .int) :: wsL_law)) B.pre
  have hts : ∀ w ∈ wsL_law, w.before args s = true := fun w h => hts0 w (List.mem_cons_of_mem _ h)
  have hown : s.vm.findClass RX6 = some m.cls := findClass_of_methodNamed B.named
  have hlocks := B.notSynchronized
  subst hsz
  have hD := hD0.self (sz := s.heap.size)
  generalize hAe : va_A [(wO6 sv n co sv_keep sv_scaled), (wO2 n n_nodes n_kind n_pay n_name n_ways n_held n_targets n_weights), (wI g n_kind 0 12 n_fkind), (wI g n_ways 0 12 n_fways), (wI g n_held 0 12 n_fheld), (wI g n_targets 0 36 n_ftargets), (wO10 vs vs_part vsw), (wJ g vs_part 1 12 vsp), (wI g pl 0 12 plf)] s.heap.size = A at hD ⊢
  have hA : ∀ q : Nat, s.heap.size ≤ q → A q := fun q h => by rw [← hAe]; exact Or.inr h
  have hS : va_S A s.heap s.heap [] := va_S.rf
  have hP : va_P D vwCl [(wO6 sv n co sv_keep sv_scaled), (wO2 n n_nodes n_kind n_pay n_name n_ways n_held n_targets n_weights), (wI g n_kind 0 12 n_fkind), (wI g n_ways 0 12 n_fways), (wI g n_held 0 12 n_fheld), (wI g n_targets 0 36 n_ftargets), (wO10 vs vs_part vsw), (wJ g vs_part 1 12 vsp), (wI g pl 0 12 plf)] s.heap := hP
  refine W.eq (g2 := entryFrame m ([.ref sv, .int p0, .ref pl, .ref vs] : List Value).toArray 4) (by rw [ha]) ?_
  have hl := lv_entry ([.ref sv, .int p0, .ref pl, .ref vs]) (n := 4) (Nat.le_of_ble_eq_true rfl)
  rw [lg_entry_eq]
  generalize (lg_sl ([.ref sv, .int p0, .ref pl, .ref vs]) ++ List.replicate (4 - (lg_sl ([.ref sv, .int p0, .ref pl, .ref vs])).length) Slot.unset).toArray = ls at hl ⊢
  have hl : lv_has ls 4 [(0, .ref sv), (1, .int p0), (2, .ref pl), (3, .ref vs)] := hl
  refine lv_aload_n hx hb dX6_turn_0 rfl (lv_at hl 0 rfl) ?_
  refine lv_iload_n hx hb dX6_turn_1 rfl (lv_at hl 1 rfl) ?_
  refine lv_aload_n hx hb dX6_turn_2 rfl (lv_at hl 2 rfl) ?_
  refine lv_aload_n hx hb dX6_turn_3 rfl (lv_at hl 3 rfl) ?_
  refine lv_iconst (v := (-1)) hx hb dX6_turn_4 (by decide) ?_
  have hPc := hP.sub (ws' := [(wO6 sv n co sv_keep sv_scaled), (wO2 n n_nodes n_kind n_pay n_name n_ways n_held n_targets n_weights), (wI g n_kind 0 12 n_fkind), (wI g n_ways 0 12 n_fways), (wI g n_held 0 12 n_fheld), (wI g n_targets 0 36 n_ftargets), (wO10 vs vs_part vsw), (wJ g vs_part 1 12 vsp), (wI g pl 0 12 plf)]) [0, 1, 2, 3, 4, 5, 6, 7, 8] rfl
  have hDc := hD.sub (ws' := [(wO6 sv n co sv_keep sv_scaled), (wO2 n n_nodes n_kind n_pay n_name n_ways n_held n_targets n_weights), (wI g n_kind 0 12 n_fkind), (wI g n_ways 0 12 n_fways), (wI g n_held 0 12 n_fheld), (wI g n_targets 0 36 n_ftargets), (wO10 vs vs_part vsw), (wJ g vs_part 1 12 vsp), (wI g pl 0 12 plf)]) [0, 1, 2, 3, 4, 5, 6, 7, 8] (by decide) rfl
  have hFc := va_free (wc := [(wO6 sv n co sv_keep sv_scaled), (wO2 n n_nodes n_kind n_pay n_name n_ways n_held n_targets n_weights), (wI g n_kind 0 12 n_fkind), (wI g n_ways 0 12 n_fways), (wI g n_held 0 12 n_fheld), (wI g n_targets 0 36 n_ftargets), (wO10 vs vs_part vsw), (wJ g vs_part 1 12 vsp), (wI g pl 0 12 plf)]) hD hS hA [0, 1, 2, 3, 4, 5, 6, 7, 8] rfl
  refine va_calli (va_runV (As := [.int p0, .ref pl, .ref vs, .int (-1)]) (rest := []) ⟨hx, hb, hml, hown, hts⟩ (c_X6_turnOpen l D g s.heap.size sv p0 pl vs (-1) n co sv_keep sv_scaled n_nodes n_kind n_pay n_name n_ways n_held n_targets n_weights n_fkind n_fways n_fheld n_ftargets vs_part vsw vsp plf (tr_w h_n_nodes (by decide) (by decide)) (tr_wa h_n_fkind (by decide) (by decide)) (tr_wa h_n_fways (by decide) (by decide)) (tr_wa h_n_fheld (by decide) (by decide)) (tr_wa h_n_ftargets (by decide) (by decide)) (tr_wa h_plf (by decide) (by decide))) (cwV 4 hts (tz_gV qw_560 qw_561 qw_562 qw_558 qw_563) rfl rfl rfl (by decide +kernel) ⟨Nat.le_of_ble_eq_true rfl, Nat.le_of_ble_eq_true rfl⟩) ⟨tz_blQ, va_recv hK hPc (ci := 6) (q0 := 0) rfl rfl, tz_preQ hPc hK hDc⟩ rfl rfl hl.1 rfl (lv_room (Nat.le_of_ble_eq_true rfl)) dX6_turn_5 ⟨Nat.le_of_ble_eq_true rfl, Nat.le_of_ble_eq_true rfl⟩) hS (fun q _ h => hFc q h) hFc (fun r_81366 u t H1 locs ht hvm hw hB hz1 hk1 hS => ?_)
  obtain ⟨opl_81367, hf_81368, hP1, hD1⟩ := hB
  rw [ht] at hP1
  obtain ⟨hP, hD⟩ := va_join (wr := []) (w1 := [(wO6 sv n co sv_keep sv_scaled), (wO2 n n_nodes n_kind n_pay n_name n_ways n_held n_targets n_weights), (wI g n_kind 0 12 n_fkind), (wI g n_ways 0 12 n_fways), (wI g n_held 0 12 n_fheld), (wI g n_targets 0 36 n_ftargets), (wO10 vs vs_part vsw), (wJ g vs_part 1 12 vsp), (wI g pl 0 12 opl_81367)]) hP hD [0, 1, 2, 3, 4, 5, 6, 7, 8] [] rfl rfl (by decide) (by decide) hk1 hFc hP1 hD1
  generalize H1 = H at hP hS ⊢
  have hP : va_P D vwCl [(wO6 sv n co sv_keep sv_scaled), (wO2 n n_nodes n_kind n_pay n_name n_ways n_held n_targets n_weights), (wI g n_kind 0 12 n_fkind), (wI g n_ways 0 12 n_fways), (wI g n_held 0 12 n_fheld), (wI g n_targets 0 36 n_ftargets), (wO10 vs vs_part vsw), (wJ g vs_part 1 12 vsp), (wI g pl 0 12 opl_81367)] H := hP
  have hD : va_D A [(wO6 sv n co sv_keep sv_scaled), (wO2 n n_nodes n_kind n_pay n_name n_ways n_held n_targets n_weights), (wI g n_kind 0 12 n_fkind), (wI g n_ways 0 12 n_fways), (wI g n_held 0 12 n_fheld), (wI g n_targets 0 36 n_ftargets), (wO10 vs vs_part vsw), (wJ g vs_part 1 12 vsp), (wI g pl 0 12 opl_81367)] := hD
  have hP9 := hP.sub (ws' := [(wO6 sv n co sv_keep sv_scaled), (wO2 n n_nodes n_kind n_pay n_name n_ways n_held n_targets n_weights), (wI g n_kind 0 12 n_fkind), (wI g n_ways 0 12 n_fways), (wI g n_held 0 12 n_fheld), (wI g n_targets 0 36 n_ftargets), (wO10 vs vs_part vsw), (wJ g vs_part 1 12 vsp), (wI g pl 0 12 opl_81367)]) [0, 1, 2, 3, 4, 5, 6, 7, 8] rfl
  have hD9 := hD.sub (ws' := [(wO6 sv n co sv_keep sv_scaled), (wO2 n n_nodes n_kind n_pay n_name n_ways n_held n_targets n_weights), (wI g n_kind 0 12 n_fkind), (wI g n_ways 0 12 n_fways), (wI g n_held 0 12 n_fheld), (wI g n_targets 0 36 n_ftargets), (wO10 vs vs_part vsw), (wJ g vs_part 1 12 vsp), (wI g pl 0 12 opl_81367)]) [0, 1, 2, 3, 4, 5, 6, 7, 8] (by decide) rfl
  exact W.iret (v := r_81366) hx hb hr (fun t ht hW => ⟨⟨r_81366, (), rfl, trivial, opl_81367, (tr_wa hf_81368 (by decide) (by decide)), by rw [ht]; exact hP9, hD9⟩, hS.F ht⟩) hS.2.2 dX6_turn_8
set_option maxHeartbeats 4000000 in
set_option maxRecDepth 100000 in
theorem c_X6_unavoidable (l : Launch) (D : va_G) (g : Nat → ClassId) (sv : Nat) (pl : Nat) (n : Nat) (co : Nat) (sv_keep : Nat) (sv_scaled : Nat) (eq : Nat) (co_place : Nat) (n_nodes : Int32) (n_kind : Nat) (n_pay : Nat) (n_name : Nat) (n_ways : Nat) (n_held : Nat) (n_targets : Nat) (n_weights : Nat) (n_fkind : Nat → Int32) (n_fpay : Nat → Int32) (n_fways : Nat → Int32) (n_fheld : Nat → Int32) (n_ftargets : Nat → Int32) (n_fweights : Nat → Int32) (plf : Nat → Int32) (h_n_nodes : 0 ≤ (n_nodes : Int32).toInt ∧ (n_nodes : Int32).toInt ≤ 12) (h_n_fkind : ∀ j : Nat, 0 ≤ (n_fkind j).toInt ∧ (n_fkind j).toInt ≤ 3) (h_n_fways : ∀ j : Nat, 0 ≤ (n_fways j).toInt ∧ (n_fways j).toInt ≤ 3) (h_n_fheld : ∀ j : Nat, (-1) ≤ (n_fheld j).toInt ∧ (n_fheld j).toInt ≤ 2) (h_n_ftargets : ∀ j : Nat, 0 ≤ (n_ftargets j).toInt ∧ (n_ftargets j).toInt ≤ 11) (h_plf : ∀ j : Nat, 0 ≤ (plf j).toInt ∧ (plf j).toInt ≤ 2) : Met l yX6_unavoidable (.code yX6_unavoidable cX6_unavoidable 8 (some .int) :: wsL_law) ({ frames := 2, cells := 0, slots := 0, locals := 47 }) (va_Pc [.ref sv, .ref pl] (fun U => va_P D vwCl [(wO6 sv n co sv_keep sv_scaled), (wO0 co n eq co_place), (wO2 n n_nodes n_kind n_pay n_name n_ways n_held n_targets n_weights), (wI g n_kind 0 12 n_fkind), (wI g n_pay 0 12 n_fpay), (wI g n_ways 0 12 n_fways), (wI g n_held 0 12 n_fheld), (wI g n_targets 0 36 n_ftargets), (wI g n_weights 0 36 n_fweights), (wI g pl 0 12 plf)] U.heap ∧ va_K D vwCl (TY g) U)) (vp_Si (fun r => True)) 0 0 (fun _ => False) := by
  refine Met.ofW (cc := cX6_unavoidable) (maxL := 8) (ret := (some .int)) (by decide) rfl ?_
  intro p e s m args below meth c s₁ B hml hv
  obtain ⟨ha, hP, hK⟩ := hv
  have hx := B.exec
  have hb := B.bytes
  have hr := B.returns
  have hts0 := atoms_spec (ws := (.code yX6_unavoidable cX6_unavoidable 8 (some .int) :: wsL_law)) B.pre
  have hts : ∀ w ∈ wsL_law, w.before args s = true := fun w h => hts0 w (List.mem_cons_of_mem _ h)
  have hown : s.vm.findClass RX6 = some m.cls := findClass_of_methodNamed B.named
  have hlocks := B.notSynchronized
  have hP : va_P D vwCl [(wO6 sv n co sv_keep sv_scaled), (wO0 co n eq co_place), (wO2 n n_nodes n_kind n_pay n_name n_ways n_held n_targets n_weights), (wI g n_kind 0 12 n_fkind), (wI g n_pay 0 12 n_fpay), (wI g n_ways 0 12 n_fways), (wI g n_held 0 12 n_fheld), (wI g n_targets 0 36 n_ftargets), (wI g n_weights 0 36 n_fweights), (wI g pl 0 12 plf)] s.heap := hP
  refine W.eq (g2 := entryFrame m ([.ref sv, .ref pl] : List Value).toArray 8) (by rw [ha]) ?_
  have hl := lv_entry ([.ref sv, .ref pl]) (n := 8) (Nat.le_of_ble_eq_true rfl)
  rw [lg_entry_eq]
  generalize (lg_sl ([.ref sv, .ref pl]) ++ List.replicate (8 - (lg_sl ([.ref sv, .ref pl])).length) Slot.unset).toArray = ls at hl ⊢
  have hl : lv_has ls 8 [(0, .ref sv), (1, .ref pl)] := hl
  refine lv_aload_n hx hb dX6_unavoidable_0 rfl (lv_at hl 0 rfl) ?_
  refine va_get (D := D) (ci := 6) (v := .ref n) (C := RX6) (T := TX6) (N := 4) hx hb hts inlX6 hown hK hP 0 rfl rfl 0 (by decide) (hts (Cond.fieldLink RX6 19 "ChanceRings$Solver" "net" "LChanceRings$Net;") qw_548) (fun _ h9 => h9) rfl dX6_unavoidable_1 ?_
  have hPc := hP.sub (ws' := [(wO2 n n_nodes n_kind n_pay n_name n_ways n_held n_targets n_weights), (wI g n_kind 0 12 n_fkind), (wI g n_pay 0 12 n_fpay)]) [2, 3, 4] rfl
  refine vp_callSi (va_Run.run (va_runV (As := []) (rest := []) ⟨hx, hb, hml, hown, hts⟩ (c_X2_payingEnds l D g n n_nodes n_kind n_pay n_name n_ways n_held n_targets n_weights n_fkind n_fpay (tr_w h_n_nodes (by decide) (by decide)) (tr_wa h_n_fkind (by decide) (by decide))) (cwV 0 hts (tz_gV qw_564 qw_505 qw_506 qw_322 qw_507) rfl rfl rfl (by decide +kernel) ⟨Nat.le_of_ble_eq_true rfl, Nat.le_of_ble_eq_true rfl⟩) ⟨tz_blS, va_recv hK hPc (ci := 2) (q0 := 0) rfl rfl, tz_preS hPc hK⟩ rfl rfl hl.1 rfl (lv_room (Nat.le_of_ble_eq_true rfl)) dX6_unavoidable_4 ⟨Nat.le_of_ble_eq_true rfl, Nat.le_of_ble_eq_true rfl⟩)) (fun r_81369 hw => ?_)
  refine lv_istore_n (lv' := [(2, .int r_81369), (0, .ref sv), (1, .ref pl)]) hx hb dX6_unavoidable_7 rfl hl (by decide) rfl (fun ls hl => ?_)
  refine lv_iconst (v := (-1)) hx hb dX6_unavoidable_8 (by decide) ?_
  refine lv_istore_n (lv' := [(3, .int (-1)), (2, .int r_81369), (0, .ref sv), (1, .ref pl)]) hx hb dX6_unavoidable_9 rfl hl (by decide) rfl (fun ls hl => ?_)
  refine lv_iconst (v := 0) hx hb dX6_unavoidable_10 (by decide) ?_
  refine lv_istore (lv' := [(4, .int 0), (3, .int (-1)), (2, .int r_81369), (0, .ref sv), (1, .ref pl)]) hx hb dX6_unavoidable_11 hl (by decide) rfl (fun ls hl => ?_)
  have lp_84403 : ∀ (n_84403 : Nat) (x_84400 : Int32) (x_84401 : Int32) (x_84402 : Int32) (ls : Array Slot), (0 ≤ (x_84400 : Int32).toInt ∧ (x_84400 : Int32).toInt ≤ 12) → (12 - x_84400.toInt < (n_84403 : Int)) → lv_has ls 8 [(4, .int x_84400), (3, .int x_84401), (2, .int x_84402), (0, .ref sv), (1, .ref pl)] → W p l e (headSpec (.code yX6_unavoidable cX6_unavoidable 8 (some .int) :: wsL_law) ({ frames := 2, cells := 0, slots := 0, locals := 47 })).room s m args below meth c s.heap [] 0 0 (MQ below (vp_Si (fun r => True)) args s 0 0 (fun _ => False)) (F0 m 13 ls []) := by
    intro n_84403
    induction n_84403 with
    | zero =>
      intro x_84400 x_84401 x_84402 ls h_x_84400 hm_84403 hl
      exfalso; omega
    | succ n_84403 ih_84403 =>
      intro x_84400 x_84401 x_84402 ls h_x_84400 hm_84403 hl
      refine lv_iload hx hb dX6_unavoidable_13 (lv_at hl 0 rfl) ?_
      refine lv_bipush (v := 12) hx hb dX6_unavoidable_15 (by decide) ?_
      refine lv_icmp_ge (tgt := 157) hx hb dX6_unavoidable_17 (by decide) (fun c_84404 => ?_) (fun c_84404 => ?_)
      · skip
        have c_84404_i := Int32.le_iff_toInt_le.mp c_84404
        have h_84405 : 12 ≤ (x_84400 : Int32).toInt ∧ (x_84400 : Int32).toInt ≤ 12 := nr_le_r (⟨by decide, by decide⟩ : 12 ≤ (12 : Int32).toInt ∧ (12 : Int32).toInt ≤ 12) h_x_84400 c_84404_i (by decide) (by decide)
        refine lv_iload_n hx hb dX6_unavoidable_157 rfl (lv_at hl 2 rfl) ?_
        exact W.iret (v := x_84402) hx hb hr (fun t ht hW => ⟨x_84402, rfl, trivial, ht⟩) (fun _ h => nomatch h) dX6_unavoidable_158
      · skip
        have c_84404_i := Int32.lt_iff_toInt_lt.mp (Int32.not_le.mp c_84404)
        have h_84406 : 0 ≤ (x_84400 : Int32).toInt ∧ (x_84400 : Int32).toInt ≤ 11 := nr_lt_l h_x_84400 (⟨by decide, by decide⟩ : 12 ≤ (12 : Int32).toInt ∧ (12 : Int32).toInt ≤ 12) c_84404_i (by decide) (by decide)
        refine lv_iload_n hx hb dX6_unavoidable_20 rfl (lv_at hl 2 rfl) ?_
        refine lv_iload_n hx hb dX6_unavoidable_21 rfl (lv_at hl 1 rfl) ?_
        refine lv_icmp_eq (tgt := 157) hx hb dX6_unavoidable_22 (by decide) (fun c_84407 => ?_) (fun c_84407 => ?_)
        · skip
          refine lv_iload_n hx hb dX6_unavoidable_157 rfl (lv_at hl 2 rfl) ?_
          exact W.iret (v := x_84402) hx hb hr (fun t ht hW => ⟨x_84402, rfl, trivial, ht⟩) (fun _ h => nomatch h) dX6_unavoidable_158
        · skip
          refine lv_iload_n hx hb dX6_unavoidable_25 rfl (lv_at hl 2 rfl) ?_
          refine lv_istore_n (lv' := [(3, .int x_84402), (4, .int x_84400), (2, .int x_84402), (0, .ref sv), (1, .ref pl)]) hx hb dX6_unavoidable_26 rfl hl (by decide) rfl (fun ls hl => ?_)
          refine lv_iconst (v := 0) hx hb dX6_unavoidable_27 (by decide) ?_
          refine lv_istore (lv' := [(5, .int 0), (3, .int x_84402), (4, .int x_84400), (2, .int x_84402), (0, .ref sv), (1, .ref pl)]) hx hb dX6_unavoidable_28 hl (by decide) rfl (fun ls hl => ?_)
          have lp_84742 : ∀ (n_84742 : Nat) (x_84740 : Int32) (x_84741 : Int32) (ls : Array Slot), (0 ≤ (x_84740 : Int32).toInt ∧ (x_84740 : Int32).toInt ≤ 12) → (12 - x_84740.toInt < (n_84742 : Int)) → lv_has ls 8 [(5, .int x_84740), (3, .int x_84402), (4, .int x_84400), (2, .int x_84741), (0, .ref sv), (1, .ref pl)] → W p l e (headSpec (.code yX6_unavoidable cX6_unavoidable 8 (some .int) :: wsL_law) ({ frames := 2, cells := 0, slots := 0, locals := 47 })).room s m args below meth c s.heap [] 0 0 (MQ below (vp_Si (fun r => True)) args s 0 0 (fun _ => False)) (F0 m 30 ls []) := by
            intro n_84742
            induction n_84742 with
            | zero =>
              intro x_84740 x_84741 ls h_x_84740 hm_84742 hl
              exfalso; omega
            | succ n_84742 ih_84742 =>
              intro x_84740 x_84741 ls h_x_84740 hm_84742 hl
              refine lv_iload hx hb dX6_unavoidable_30 (lv_at hl 0 rfl) ?_
              refine lv_aload_n hx hb dX6_unavoidable_32 rfl (lv_at hl 4 rfl) ?_
              refine va_get (D := D) (ci := 6) (v := .ref n) (C := RX6) (T := TX6) (N := 4) hx hb hts inlX6 hown hK hP 0 rfl rfl 0 (by decide) (hts (Cond.fieldLink RX6 19 "ChanceRings$Solver" "net" "LChanceRings$Net;") qw_548) (fun _ h9 => h9) rfl dX6_unavoidable_33 ?_
              refine va_get (D := D) (ci := 2) (v := .int n_nodes) (C := RX2) (T := TX2) (N := 8) hx hb hts inlX2 hown hK hP 2 rfl rfl 0 (by decide) (hts (Cond.fieldLink RX6 32 "ChanceRings$Net" "nodes" "I") qw_549) (fun _ h9 => h9) rfl dX6_unavoidable_36 ?_
              refine lv_icmp_ge (tgt := 151) hx hb dX6_unavoidable_39 (by decide) (fun c_84743 => ?_) (fun c_84743 => ?_)
              · skip
                obtain ⟨v_84746, v_84746_e⟩ : ∃ y : Int32, y = x_84400 + Int32.ofInt 1 := ⟨_, rfl⟩
                have h_v_84746 : 1 ≤ (v_84746 : Int32).toInt ∧ (v_84746 : Int32).toInt ≤ 12 := by rw [v_84746_e]; exact tr_add h_84406 (⟨by decide, by decide⟩ : 1 ≤ (Int32.ofInt 1 : Int32).toInt ∧ (Int32.ofInt 1 : Int32).toInt ≤ 1) (by decide) (by decide) (by decide) (by decide)
                have q_v_84746 : v_84746.toInt = x_84400.toInt + 1 := by rw [v_84746_e]; exact tr_addE h_84406 (⟨by decide, by decide⟩ : 1 ≤ (Int32.ofInt 1 : Int32).toInt ∧ (Int32.ofInt 1 : Int32).toInt ≤ 1) (by decide) (by decide)
                refine lv_iinc (v := v_84746) (lv' := [(4, .int v_84746), (5, .int x_84740), (3, .int x_84402), (2, .int x_84741), (0, .ref sv), (1, .ref pl)]) hx hb dX6_unavoidable_151 hl (k := 2) rfl v_84746_e.symm (by decide) rfl (fun ls hl => ?_)
                refine lv_goto (tgt := 13) hx hb dX6_unavoidable_154 (by decide) ?_
                exact ih_84403 v_84746 x_84402 x_84741 ls (tr_w h_v_84746 (by decide) (by decide)) (by omega) (lv_sub hl [0, 2, 3, 4, 5] rfl)
              · skip
                have c_84743_i := Int32.lt_iff_toInt_lt.mp (Int32.not_le.mp c_84743)
                have h_84744 : 0 ≤ (x_84740 : Int32).toInt ∧ (x_84740 : Int32).toInt ≤ 11 := nr_lt_l h_x_84740 h_n_nodes c_84743_i (by decide) (by decide)
                have h_84745 : 1 ≤ (n_nodes : Int32).toInt ∧ (n_nodes : Int32).toInt ≤ 12 := nr_lt_r h_x_84740 h_n_nodes c_84743_i (by decide) (by decide)
                refine lv_aload_n hx hb dX6_unavoidable_42 rfl (lv_at hl 4 rfl) ?_
                refine va_get (D := D) (ci := 6) (v := .ref n) (C := RX6) (T := TX6) (N := 4) hx hb hts inlX6 hown hK hP 0 rfl rfl 0 (by decide) (hts (Cond.fieldLink RX6 19 "ChanceRings$Solver" "net" "LChanceRings$Net;") qw_548) (fun _ h9 => h9) rfl dX6_unavoidable_43 ?_
                refine va_get (D := D) (ci := 2) (v := .ref n_kind) (C := RX2) (T := TX2) (N := 8) hx hb hts inlX2 hown hK hP 2 rfl rfl 1 (by decide) (hts (Cond.fieldLink RX6 61 "ChanceRings$Net" "kind" "[I") qw_551) (fun _ h9 => h9) rfl dX6_unavoidable_46 ?_
                refine lv_iload hx hb dX6_unavoidable_49 (lv_at hl 0 rfl) ?_
                refine va_iald hx hb hK hP 3 0 rfl rfl (tr_in h_84744 (by decide) (by decide)) dX6_unavoidable_51 ?_
                refine lv_topi (fun v_84747 v_84747_e => ?_)
                have h_v_84747 : 0 ≤ (v_84747 : Int32).toInt ∧ (v_84747 : Int32).toInt ≤ 3 := by rw [v_84747_e]; exact h_n_fkind _
                refine lv_iconst (v := 2) hx hb dX6_unavoidable_52 (by decide) ?_
                refine lv_icmp_ne (tgt := 68) hx hb dX6_unavoidable_53 (by decide) (fun c_84748 => ?_) (fun c_84748 => ?_)
                · skip
                  refine lv_aload_n hx hb dX6_unavoidable_68 rfl (lv_at hl 4 rfl) ?_
                  refine va_get (D := D) (ci := 6) (v := .ref co) (C := RX6) (T := TX6) (N := 4) hx hb hts inlX6 hown hK hP 0 rfl rfl 1 (by decide) (hts (Cond.fieldLink RX6 28 "ChanceRings$Solver" "course" "LChanceRings$Course;") qw_565) (fun _ h9 => h9) rfl dX6_unavoidable_69 ?_
                  refine lv_aload_n hx hb dX6_unavoidable_72 rfl (lv_at hl 5 rfl) ?_
                  refine lv_iload hx hb dX6_unavoidable_73 (lv_at hl 0 rfl) ?_
                  have hPc := hP.sub (ws' := [(wO0 co n eq co_place), (wO2 n n_nodes n_kind n_pay n_name n_ways n_held n_targets n_weights), (wI g n_kind 0 12 n_fkind), (wI g n_ways 0 12 n_fways), (wI g n_targets 0 36 n_ftargets), (wI g n_weights 0 36 n_fweights), (wI g pl 0 12 plf)]) [1, 2, 3, 5, 7, 8, 9] rfl
                  refine vp_callSi (va_Run.run (va_runV (As := [.ref pl, .int x_84740]) (rest := []) ⟨hx, hb, hml, hown, hts⟩ (c_X0_follow l D g co pl x_84740 n eq co_place n_nodes n_kind n_pay n_name n_ways n_held n_targets n_weights n_fkind n_fways n_ftargets n_fweights plf (tr_w h_84744 (by decide) (by decide)) (tr_w h_84745 (by decide) (by decide)) (tr_wa h_n_fkind (by decide) (by decide)) (tr_wa h_n_fways (by decide) (by decide)) (tr_wa h_n_ftargets (by decide) (by decide)) (tr_wa h_plf (by decide) (by decide))) (cwV 2 hts (tz_gV qw_566 qw_567 qw_568 qw_490 qw_569) rfl rfl rfl (by decide +kernel) ⟨Nat.le_of_ble_eq_true rfl, Nat.le_of_ble_eq_true rfl⟩) ⟨tz_blS, va_recv hK hPc (ci := 0) (q0 := 0) rfl rfl, tz_preS hPc hK⟩ rfl rfl hl.1 rfl (lv_room (Nat.le_of_ble_eq_true rfl)) dX6_unavoidable_75 ⟨Nat.le_of_ble_eq_true rfl, Nat.le_of_ble_eq_true rfl⟩)) (fun r_84750 hw => ?_)
                  refine lv_istore (lv' := [(6, .int r_84750), (5, .int x_84740), (3, .int x_84402), (4, .int x_84400), (2, .int x_84741), (0, .ref sv), (1, .ref pl)]) hx hb dX6_unavoidable_78 hl (by decide) rfl (fun ls hl => ?_)
                  refine lv_aload_n hx hb dX6_unavoidable_80 rfl (lv_at hl 5 rfl) ?_
                  refine va_get (D := D) (ci := 6) (v := .ref n) (C := RX6) (T := TX6) (N := 4) hx hb hts inlX6 hown hK hP 0 rfl rfl 0 (by decide) (hts (Cond.fieldLink RX6 19 "ChanceRings$Solver" "net" "LChanceRings$Net;") qw_548) (fun _ h9 => h9) rfl dX6_unavoidable_81 ?_
                  refine va_get (D := D) (ci := 2) (v := .ref n_kind) (C := RX2) (T := TX2) (N := 8) hx hb hts inlX2 hown hK hP 2 rfl rfl 1 (by decide) (hts (Cond.fieldLink RX6 61 "ChanceRings$Net" "kind" "[I") qw_551) (fun _ h9 => h9) rfl dX6_unavoidable_84 ?_
                  refine lv_iload hx hb dX6_unavoidable_87 (lv_at hl 1 rfl) ?_
                  refine va_iald hx hb hK hP 3 0 rfl rfl (tr_in h_84744 (by decide) (by decide)) dX6_unavoidable_89 ?_
                  refine tz_i (y := v_84747) v_84747_e.symm ?_
                  refine lv_iconst (v := 2) hx hb dX6_unavoidable_90 (by decide) ?_
                  refine lv_icmp_ne (tgt := 98) hx hb dX6_unavoidable_91 (by decide) (fun c_84751 => ?_) (fun c_84751 => ?_)
                  · skip
                    refine lv_iconst (v := 0) hx hb dX6_unavoidable_98 (by decide) ?_
                    refine lv_istore (lv' := [(7, .int 0), (6, .int r_84750), (5, .int x_84740), (3, .int x_84402), (4, .int x_84400), (2, .int x_84741), (0, .ref sv), (1, .ref pl)]) hx hb dX6_unavoidable_99 hl (by decide) rfl (fun ls hl => ?_)
                    refine lv_aload_n hx hb dX6_unavoidable_101 rfl (lv_at hl 6 rfl) ?_
                    refine va_get (D := D) (ci := 6) (v := .ref n) (C := RX6) (T := TX6) (N := 4) hx hb hts inlX6 hown hK hP 0 rfl rfl 0 (by decide) (hts (Cond.fieldLink RX6 19 "ChanceRings$Solver" "net" "LChanceRings$Net;") qw_548) (fun _ h9 => h9) rfl dX6_unavoidable_102 ?_
                    refine va_get (D := D) (ci := 2) (v := .ref n_kind) (C := RX2) (T := TX2) (N := 8) hx hb hts inlX2 hown hK hP 2 rfl rfl 1 (by decide) (hts (Cond.fieldLink RX6 61 "ChanceRings$Net" "kind" "[I") qw_551) (fun _ h9 => h9) rfl dX6_unavoidable_105 ?_
                    refine lv_iload hx hb dX6_unavoidable_108 (lv_at hl 2 rfl) ?_
                    refine va_iald hx hb hK hP 3 0 rfl rfl (tr_in h_84744 (by decide) (by decide)) dX6_unavoidable_110 ?_
                    refine tz_i (y := v_84747) v_84747_e.symm ?_
                    refine lv_if_eq (tgt := 145) hx hb dX6_unavoidable_111 (by decide) (fun c_84753 => ?_) (fun c_84753 => ?_)
                    · skip
                      have c_84753_i : (v_84747 : Int32).toInt = (0 : Int32).toInt := congrArg Int32.toInt c_84753
                      have h_84754 : 0 ≤ (v_84747 : Int32).toInt ∧ (v_84747 : Int32).toInt ≤ 0 := nr_eq_l h_v_84747 (⟨by decide, by decide⟩ : 0 ≤ (0 : Int32).toInt ∧ (0 : Int32).toInt ≤ 0) c_84753_i (by decide) (by decide)
                      obtain ⟨v_84756, v_84756_e⟩ : ∃ y : Int32, y = x_84740 + Int32.ofInt 1 := ⟨_, rfl⟩
                      have h_v_84756 : 1 ≤ (v_84756 : Int32).toInt ∧ (v_84756 : Int32).toInt ≤ 12 := by rw [v_84756_e]; exact tr_add h_84744 (⟨by decide, by decide⟩ : 1 ≤ (Int32.ofInt 1 : Int32).toInt ∧ (Int32.ofInt 1 : Int32).toInt ≤ 1) (by decide) (by decide) (by decide) (by decide)
                      have q_v_84756 : v_84756.toInt = x_84740.toInt + 1 := by rw [v_84756_e]; exact tr_addE h_84744 (⟨by decide, by decide⟩ : 1 ≤ (Int32.ofInt 1 : Int32).toInt ∧ (Int32.ofInt 1 : Int32).toInt ≤ 1) (by decide) (by decide)
                      refine lv_iinc (v := v_84756) (lv' := [(5, .int v_84756), (7, .int 0), (6, .int r_84750), (3, .int x_84402), (4, .int x_84400), (2, .int x_84741), (0, .ref sv), (1, .ref pl)]) hx hb dX6_unavoidable_145 hl (k := 2) rfl v_84756_e.symm (by decide) rfl (fun ls hl => ?_)
                      refine lv_goto (tgt := 30) hx hb dX6_unavoidable_148 (by decide) ?_
                      exact ih_84742 v_84756 x_84741 ls (tr_w h_v_84756 (by decide) (by decide)) (by (first | (clear h_x_84400 c_84404_i h_84406 h_v_84747 c_84753_i h_84754; omega) | omega)) (lv_sub hl [0, 3, 4, 5, 6, 7] rfl)
                    · skip
                      have c_84753_i : ¬ (v_84747 : Int32).toInt = (0 : Int32).toInt := (fun q => c_84753 (Int32.toInt_inj.mp q))
                      have h_84755 : 1 ≤ (v_84747 : Int32).toInt ∧ (v_84747 : Int32).toInt ≤ 3 := nr_ne_l h_v_84747 (⟨by decide, by decide⟩ : 0 ≤ (0 : Int32).toInt ∧ (0 : Int32).toInt ≤ 0) c_84753_i (by decide) (by decide)
                      refine lv_iload hx hb dX6_unavoidable_114 (lv_at hl 0 rfl) ?_
                      refine lv_if_eq (tgt := 131) hx hb dX6_unavoidable_116 (by decide) (fun _ => ?_) (fun h9 => (h9 (by decide)).elim)
                      refine lv_iload hx hb dX6_unavoidable_131 (lv_at hl 1 rfl) ?_
                      refine lv_iload_n hx hb dX6_unavoidable_133 rfl (lv_at hl 5 rfl) ?_
                      refine lv_iand hx hb dX6_unavoidable_134 ?_
                      refine lv_topi (fun v_84757 v_84757_e => ?_)
                      refine lv_if_eq (tgt := 145) hx hb dX6_unavoidable_135 (by decide) (fun c_84758 => ?_) (fun c_84758 => ?_)
                      · skip
                        have h_84759 : 0 ≤ (v_84757 : Int32).toInt ∧ (v_84757 : Int32).toInt ≤ 0 := by rw [c_84758]; exact ⟨by decide, by decide⟩
                        obtain ⟨v_84760, v_84760_e⟩ : ∃ y : Int32, y = x_84740 + Int32.ofInt 1 := ⟨_, rfl⟩
                        have h_v_84760 : 1 ≤ (v_84760 : Int32).toInt ∧ (v_84760 : Int32).toInt ≤ 12 := by rw [v_84760_e]; exact tr_add h_84744 (⟨by decide, by decide⟩ : 1 ≤ (Int32.ofInt 1 : Int32).toInt ∧ (Int32.ofInt 1 : Int32).toInt ≤ 1) (by decide) (by decide) (by decide) (by decide)
                        have q_v_84760 : v_84760.toInt = x_84740.toInt + 1 := by rw [v_84760_e]; exact tr_addE h_84744 (⟨by decide, by decide⟩ : 1 ≤ (Int32.ofInt 1 : Int32).toInt ∧ (Int32.ofInt 1 : Int32).toInt ≤ 1) (by decide) (by decide)
                        refine lv_iinc (v := v_84760) (lv' := [(5, .int v_84760), (7, .int 0), (6, .int r_84750), (3, .int x_84402), (4, .int x_84400), (2, .int x_84741), (0, .ref sv), (1, .ref pl)]) hx hb dX6_unavoidable_145 hl (k := 2) rfl v_84760_e.symm (by decide) rfl (fun ls hl => ?_)
                        refine lv_goto (tgt := 30) hx hb dX6_unavoidable_148 (by decide) ?_
                        exact ih_84742 v_84760 x_84741 ls (tr_w h_v_84760 (by decide) (by decide)) (by (first | (clear h_x_84400 c_84404_i h_84406 h_v_84747 c_84753_i h_84755 h_84759; omega) | omega)) (lv_sub hl [0, 3, 4, 5, 6, 7] rfl)
                      · skip
                        refine lv_iload_n hx hb dX6_unavoidable_138 rfl (lv_at hl 5 rfl) ?_
                        refine lv_iconst (v := 1) hx hb dX6_unavoidable_139 (by decide) ?_
                        refine lv_iload hx hb dX6_unavoidable_140 (lv_at hl 2 rfl) ?_
                        refine lv_ishl hx hb dX6_unavoidable_142 ?_
                        refine lv_topi (fun v_84761 v_84761_e => ?_)
                        refine lv_ior hx hb dX6_unavoidable_143 ?_
                        refine lv_topi (fun v_84762 v_84762_e => ?_)
                        refine lv_istore_n (lv' := [(2, .int v_84762), (7, .int 0), (6, .int r_84750), (5, .int x_84740), (3, .int x_84402), (4, .int x_84400), (0, .ref sv), (1, .ref pl)]) hx hb dX6_unavoidable_144 rfl hl (by decide) rfl (fun ls hl => ?_)
                        obtain ⟨v_84763, v_84763_e⟩ : ∃ y : Int32, y = x_84740 + Int32.ofInt 1 := ⟨_, rfl⟩
                        have h_v_84763 : 1 ≤ (v_84763 : Int32).toInt ∧ (v_84763 : Int32).toInt ≤ 12 := by rw [v_84763_e]; exact tr_add h_84744 (⟨by decide, by decide⟩ : 1 ≤ (Int32.ofInt 1 : Int32).toInt ∧ (Int32.ofInt 1 : Int32).toInt ≤ 1) (by decide) (by decide) (by decide) (by decide)
                        have q_v_84763 : v_84763.toInt = x_84740.toInt + 1 := by rw [v_84763_e]; exact tr_addE h_84744 (⟨by decide, by decide⟩ : 1 ≤ (Int32.ofInt 1 : Int32).toInt ∧ (Int32.ofInt 1 : Int32).toInt ≤ 1) (by decide) (by decide)
                        refine lv_iinc (v := v_84763) (lv' := [(5, .int v_84763), (2, .int v_84762), (7, .int 0), (6, .int r_84750), (3, .int x_84402), (4, .int x_84400), (0, .ref sv), (1, .ref pl)]) hx hb dX6_unavoidable_145 hl (k := 3) rfl v_84763_e.symm (by decide) rfl (fun ls hl => ?_)
                        refine lv_goto (tgt := 30) hx hb dX6_unavoidable_148 (by decide) ?_
                        exact ih_84742 v_84763 v_84762 ls (tr_w h_v_84763 (by decide) (by decide)) (by (first | (clear h_x_84400 c_84404_i h_84406 h_v_84747 c_84753_i h_84755; omega) | omega)) (lv_sub hl [0, 4, 5, 1, 6, 7] rfl)
                  · skip
                    have c_84751_i : (v_84747 : Int32).toInt = (2 : Int32).toInt := congrArg Int32.toInt c_84751
                    have h_84752 : 2 ≤ (v_84747 : Int32).toInt ∧ (v_84747 : Int32).toInt ≤ 2 := nr_eq_l h_v_84747 (⟨by decide, by decide⟩ : 2 ≤ (2 : Int32).toInt ∧ (2 : Int32).toInt ≤ 2) c_84751_i (by decide) (by decide)
                    refine lv_iconst (v := 1) hx hb dX6_unavoidable_94 (by decide) ?_
                    refine lv_goto (tgt := 99) hx hb dX6_unavoidable_95 (by decide) ?_
                    refine lv_istore (lv' := [(7, .int 1), (6, .int r_84750), (5, .int x_84740), (3, .int x_84402), (4, .int x_84400), (2, .int x_84741), (0, .ref sv), (1, .ref pl)]) hx hb dX6_unavoidable_99 hl (by decide) rfl (fun ls hl => ?_)
                    refine lv_aload_n hx hb dX6_unavoidable_101 rfl (lv_at hl 6 rfl) ?_
                    refine va_get (D := D) (ci := 6) (v := .ref n) (C := RX6) (T := TX6) (N := 4) hx hb hts inlX6 hown hK hP 0 rfl rfl 0 (by decide) (hts (Cond.fieldLink RX6 19 "ChanceRings$Solver" "net" "LChanceRings$Net;") qw_548) (fun _ h9 => h9) rfl dX6_unavoidable_102 ?_
                    refine va_get (D := D) (ci := 2) (v := .ref n_kind) (C := RX2) (T := TX2) (N := 8) hx hb hts inlX2 hown hK hP 2 rfl rfl 1 (by decide) (hts (Cond.fieldLink RX6 61 "ChanceRings$Net" "kind" "[I") qw_551) (fun _ h9 => h9) rfl dX6_unavoidable_105 ?_
                    refine lv_iload hx hb dX6_unavoidable_108 (lv_at hl 2 rfl) ?_
                    refine va_iald hx hb hK hP 3 0 rfl rfl (tr_in h_84744 (by decide) (by decide)) dX6_unavoidable_110 ?_
                    refine tz_i (y := v_84747) v_84747_e.symm ?_
                    refine lv_if_eq (tgt := 145) hx hb dX6_unavoidable_111 (by decide) (fun h9 => (nr_x_eq h_84752 (⟨by decide, by decide⟩ : 0 ≤ (0 : Int32).toInt ∧ (0 : Int32).toInt ≤ 0) (congrArg Int32.toInt h9) (by decide)).elim) (fun c_84764 => ?_)
                    refine lv_iload hx hb dX6_unavoidable_114 (lv_at hl 0 rfl) ?_
                    refine lv_if_eq (tgt := 131) hx hb dX6_unavoidable_116 (by decide) (fun h9 => absurd h9 (by decide)) (fun _ => ?_)
                    refine lv_iload hx hb dX6_unavoidable_119 (lv_at hl 1 rfl) ?_
                    refine lv_iload_n hx hb dX6_unavoidable_121 rfl (lv_at hl 5 rfl) ?_
                    refine lv_iconst (v := (-1)) hx hb dX6_unavoidable_122 (by decide) ?_
                    refine lv_ixor hx hb dX6_unavoidable_123 ?_
                    refine lv_topi (fun v_84765 v_84765_e => ?_)
                    refine lv_iand hx hb dX6_unavoidable_124 ?_
                    refine lv_topi (fun v_84766 v_84766_e => ?_)
                    refine lv_if_ne (tgt := 145) hx hb dX6_unavoidable_125 (by decide) (fun c_84767 => ?_) (fun c_84767 => ?_)
                    · skip
                      obtain ⟨v_84769, v_84769_e⟩ : ∃ y : Int32, y = x_84740 + Int32.ofInt 1 := ⟨_, rfl⟩
                      have h_v_84769 : 1 ≤ (v_84769 : Int32).toInt ∧ (v_84769 : Int32).toInt ≤ 12 := by rw [v_84769_e]; exact tr_add h_84744 (⟨by decide, by decide⟩ : 1 ≤ (Int32.ofInt 1 : Int32).toInt ∧ (Int32.ofInt 1 : Int32).toInt ≤ 1) (by decide) (by decide) (by decide) (by decide)
                      have q_v_84769 : v_84769.toInt = x_84740.toInt + 1 := by rw [v_84769_e]; exact tr_addE h_84744 (⟨by decide, by decide⟩ : 1 ≤ (Int32.ofInt 1 : Int32).toInt ∧ (Int32.ofInt 1 : Int32).toInt ≤ 1) (by decide) (by decide)
                      refine lv_iinc (v := v_84769) (lv' := [(5, .int v_84769), (7, .int 1), (6, .int r_84750), (3, .int x_84402), (4, .int x_84400), (2, .int x_84741), (0, .ref sv), (1, .ref pl)]) hx hb dX6_unavoidable_145 hl (k := 2) rfl v_84769_e.symm (by decide) rfl (fun ls hl => ?_)
                      refine lv_goto (tgt := 30) hx hb dX6_unavoidable_148 (by decide) ?_
                      exact ih_84742 v_84769 x_84741 ls (tr_w h_v_84769 (by decide) (by decide)) (by (first | (clear h_x_84400 c_84404_i h_84406 h_v_84747 c_84751_i h_84752; omega) | omega)) (lv_sub hl [0, 3, 4, 5, 6, 7] rfl)
                    · skip
                      have h_84768 : 0 ≤ (v_84766 : Int32).toInt ∧ (v_84766 : Int32).toInt ≤ 0 := by rw [c_84767]; exact ⟨by decide, by decide⟩
                      refine lv_goto (tgt := 138) hx hb dX6_unavoidable_128 (by decide) ?_
                      refine lv_iload_n hx hb dX6_unavoidable_138 rfl (lv_at hl 5 rfl) ?_
                      refine lv_iconst (v := 1) hx hb dX6_unavoidable_139 (by decide) ?_
                      refine lv_iload hx hb dX6_unavoidable_140 (lv_at hl 2 rfl) ?_
                      refine lv_ishl hx hb dX6_unavoidable_142 ?_
                      refine lv_topi (fun v_84770 v_84770_e => ?_)
                      refine lv_ior hx hb dX6_unavoidable_143 ?_
                      refine lv_topi (fun v_84771 v_84771_e => ?_)
                      refine lv_istore_n (lv' := [(2, .int v_84771), (7, .int 1), (6, .int r_84750), (5, .int x_84740), (3, .int x_84402), (4, .int x_84400), (0, .ref sv), (1, .ref pl)]) hx hb dX6_unavoidable_144 rfl hl (by decide) rfl (fun ls hl => ?_)
                      obtain ⟨v_84772, v_84772_e⟩ : ∃ y : Int32, y = x_84740 + Int32.ofInt 1 := ⟨_, rfl⟩
                      have h_v_84772 : 1 ≤ (v_84772 : Int32).toInt ∧ (v_84772 : Int32).toInt ≤ 12 := by rw [v_84772_e]; exact tr_add h_84744 (⟨by decide, by decide⟩ : 1 ≤ (Int32.ofInt 1 : Int32).toInt ∧ (Int32.ofInt 1 : Int32).toInt ≤ 1) (by decide) (by decide) (by decide) (by decide)
                      have q_v_84772 : v_84772.toInt = x_84740.toInt + 1 := by rw [v_84772_e]; exact tr_addE h_84744 (⟨by decide, by decide⟩ : 1 ≤ (Int32.ofInt 1 : Int32).toInt ∧ (Int32.ofInt 1 : Int32).toInt ≤ 1) (by decide) (by decide)
                      refine lv_iinc (v := v_84772) (lv' := [(5, .int v_84772), (2, .int v_84771), (7, .int 1), (6, .int r_84750), (3, .int x_84402), (4, .int x_84400), (0, .ref sv), (1, .ref pl)]) hx hb dX6_unavoidable_145 hl (k := 3) rfl v_84772_e.symm (by decide) rfl (fun ls hl => ?_)
                      refine lv_goto (tgt := 30) hx hb dX6_unavoidable_148 (by decide) ?_
                      exact ih_84742 v_84772 v_84771 ls (tr_w h_v_84772 (by decide) (by decide)) (by (first | (clear h_x_84400 c_84404_i h_84406 h_v_84747 c_84751_i h_84752 h_84768; omega) | omega)) (lv_sub hl [0, 4, 5, 1, 6, 7] rfl)
                · skip
                  have c_84748_i : (v_84747 : Int32).toInt = (2 : Int32).toInt := congrArg Int32.toInt c_84748
                  have h_84749 : 2 ≤ (v_84747 : Int32).toInt ∧ (v_84747 : Int32).toInt ≤ 2 := nr_eq_l h_v_84747 (⟨by decide, by decide⟩ : 2 ≤ (2 : Int32).toInt ∧ (2 : Int32).toInt ≤ 2) c_84748_i (by decide) (by decide)
                  refine lv_aload_n hx hb dX6_unavoidable_56 rfl (lv_at hl 4 rfl) ?_
                  refine va_get (D := D) (ci := 6) (v := .ref n) (C := RX6) (T := TX6) (N := 4) hx hb hts inlX6 hown hK hP 0 rfl rfl 0 (by decide) (hts (Cond.fieldLink RX6 19 "ChanceRings$Solver" "net" "LChanceRings$Net;") qw_548) (fun _ h9 => h9) rfl dX6_unavoidable_57 ?_
                  refine lv_iload hx hb dX6_unavoidable_60 (lv_at hl 0 rfl) ?_
                  have hPc := hP.sub (ws' := [(wO2 n n_nodes n_kind n_pay n_name n_ways n_held n_targets n_weights), (wI g n_ways 0 12 n_fways), (wI g n_held 0 12 n_fheld), (wI g n_targets 0 36 n_ftargets)]) [2, 5, 6, 7] rfl
                  refine vp_callSi (va_Run.run (va_runV (As := [.int x_84740]) (rest := []) ⟨hx, hb, hml, hown, hts⟩ (c_X2_nextNodes l D g n x_84740 n_nodes n_kind n_pay n_name n_ways n_held n_targets n_weights n_fways n_fheld n_ftargets (tr_w h_84744 (by decide) (by decide)) (tr_w h_84745 (by decide) (by decide)) (tr_wa h_n_fways (by decide) (by decide)) (tr_wa h_n_fheld (by decide) (by decide)) (tr_wa h_n_ftargets (by decide) (by decide))) (cwV 1 hts (tz_gV qw_570 qw_479 qw_480 qw_322 qw_481) rfl rfl rfl (by decide +kernel) ⟨Nat.le_of_ble_eq_true rfl, Nat.le_of_ble_eq_true rfl⟩) ⟨tz_blS, va_recv hK hPc (ci := 2) (q0 := 0) rfl rfl, tz_preS hPc hK⟩ rfl rfl hl.1 rfl (lv_room (Nat.le_of_ble_eq_true rfl)) dX6_unavoidable_62 ⟨Nat.le_of_ble_eq_true rfl, Nat.le_of_ble_eq_true rfl⟩)) (fun r_84773 hw => ?_)
                  refine lv_goto (tgt := 78) hx hb dX6_unavoidable_65 (by decide) ?_
                  refine lv_istore (lv' := [(6, .int r_84773), (5, .int x_84740), (3, .int x_84402), (4, .int x_84400), (2, .int x_84741), (0, .ref sv), (1, .ref pl)]) hx hb dX6_unavoidable_78 hl (by decide) rfl (fun ls hl => ?_)
                  refine lv_aload_n hx hb dX6_unavoidable_80 rfl (lv_at hl 5 rfl) ?_
                  refine va_get (D := D) (ci := 6) (v := .ref n) (C := RX6) (T := TX6) (N := 4) hx hb hts inlX6 hown hK hP 0 rfl rfl 0 (by decide) (hts (Cond.fieldLink RX6 19 "ChanceRings$Solver" "net" "LChanceRings$Net;") qw_548) (fun _ h9 => h9) rfl dX6_unavoidable_81 ?_
                  refine va_get (D := D) (ci := 2) (v := .ref n_kind) (C := RX2) (T := TX2) (N := 8) hx hb hts inlX2 hown hK hP 2 rfl rfl 1 (by decide) (hts (Cond.fieldLink RX6 61 "ChanceRings$Net" "kind" "[I") qw_551) (fun _ h9 => h9) rfl dX6_unavoidable_84 ?_
                  refine lv_iload hx hb dX6_unavoidable_87 (lv_at hl 1 rfl) ?_
                  refine va_iald hx hb hK hP 3 0 rfl rfl (tr_in h_84744 (by decide) (by decide)) dX6_unavoidable_89 ?_
                  refine tz_i (y := v_84747) v_84747_e.symm ?_
                  refine lv_iconst (v := 2) hx hb dX6_unavoidable_90 (by decide) ?_
                  refine lv_icmp_ne (tgt := 98) hx hb dX6_unavoidable_91 (by decide) (fun h9 => (nr_x_ne h_84749 (⟨by decide, by decide⟩ : 2 ≤ (2 : Int32).toInt ∧ (2 : Int32).toInt ≤ 2) (fun q => h9 (Int32.toInt_inj.mp q)) (by decide)).elim) (fun c_84774 => ?_)
                  refine lv_iconst (v := 1) hx hb dX6_unavoidable_94 (by decide) ?_
                  refine lv_goto (tgt := 99) hx hb dX6_unavoidable_95 (by decide) ?_
                  refine lv_istore (lv' := [(7, .int 1), (6, .int r_84773), (5, .int x_84740), (3, .int x_84402), (4, .int x_84400), (2, .int x_84741), (0, .ref sv), (1, .ref pl)]) hx hb dX6_unavoidable_99 hl (by decide) rfl (fun ls hl => ?_)
                  refine lv_aload_n hx hb dX6_unavoidable_101 rfl (lv_at hl 6 rfl) ?_
                  refine va_get (D := D) (ci := 6) (v := .ref n) (C := RX6) (T := TX6) (N := 4) hx hb hts inlX6 hown hK hP 0 rfl rfl 0 (by decide) (hts (Cond.fieldLink RX6 19 "ChanceRings$Solver" "net" "LChanceRings$Net;") qw_548) (fun _ h9 => h9) rfl dX6_unavoidable_102 ?_
                  refine va_get (D := D) (ci := 2) (v := .ref n_kind) (C := RX2) (T := TX2) (N := 8) hx hb hts inlX2 hown hK hP 2 rfl rfl 1 (by decide) (hts (Cond.fieldLink RX6 61 "ChanceRings$Net" "kind" "[I") qw_551) (fun _ h9 => h9) rfl dX6_unavoidable_105 ?_
                  refine lv_iload hx hb dX6_unavoidable_108 (lv_at hl 2 rfl) ?_
                  refine va_iald hx hb hK hP 3 0 rfl rfl (tr_in h_84744 (by decide) (by decide)) dX6_unavoidable_110 ?_
                  refine tz_i (y := v_84747) v_84747_e.symm ?_
                  refine lv_if_eq (tgt := 145) hx hb dX6_unavoidable_111 (by decide) (fun h9 => (nr_x_eq h_84749 (⟨by decide, by decide⟩ : 0 ≤ (0 : Int32).toInt ∧ (0 : Int32).toInt ≤ 0) (congrArg Int32.toInt h9) (by decide)).elim) (fun c_84775 => ?_)
                  refine lv_iload hx hb dX6_unavoidable_114 (lv_at hl 0 rfl) ?_
                  refine lv_if_eq (tgt := 131) hx hb dX6_unavoidable_116 (by decide) (fun h9 => absurd h9 (by decide)) (fun _ => ?_)
                  refine lv_iload hx hb dX6_unavoidable_119 (lv_at hl 1 rfl) ?_
                  refine lv_iload_n hx hb dX6_unavoidable_121 rfl (lv_at hl 5 rfl) ?_
                  refine lv_iconst (v := (-1)) hx hb dX6_unavoidable_122 (by decide) ?_
                  refine lv_ixor hx hb dX6_unavoidable_123 ?_
                  refine lv_topi (fun v_84776 v_84776_e => ?_)
                  refine lv_iand hx hb dX6_unavoidable_124 ?_
                  refine lv_topi (fun v_84777 v_84777_e => ?_)
                  refine lv_if_ne (tgt := 145) hx hb dX6_unavoidable_125 (by decide) (fun c_84778 => ?_) (fun c_84778 => ?_)
                  · skip
                    obtain ⟨v_84780, v_84780_e⟩ : ∃ y : Int32, y = x_84740 + Int32.ofInt 1 := ⟨_, rfl⟩
                    have h_v_84780 : 1 ≤ (v_84780 : Int32).toInt ∧ (v_84780 : Int32).toInt ≤ 12 := by rw [v_84780_e]; exact tr_add h_84744 (⟨by decide, by decide⟩ : 1 ≤ (Int32.ofInt 1 : Int32).toInt ∧ (Int32.ofInt 1 : Int32).toInt ≤ 1) (by decide) (by decide) (by decide) (by decide)
                    have q_v_84780 : v_84780.toInt = x_84740.toInt + 1 := by rw [v_84780_e]; exact tr_addE h_84744 (⟨by decide, by decide⟩ : 1 ≤ (Int32.ofInt 1 : Int32).toInt ∧ (Int32.ofInt 1 : Int32).toInt ≤ 1) (by decide) (by decide)
                    refine lv_iinc (v := v_84780) (lv' := [(5, .int v_84780), (7, .int 1), (6, .int r_84773), (3, .int x_84402), (4, .int x_84400), (2, .int x_84741), (0, .ref sv), (1, .ref pl)]) hx hb dX6_unavoidable_145 hl (k := 2) rfl v_84780_e.symm (by decide) rfl (fun ls hl => ?_)
                    refine lv_goto (tgt := 30) hx hb dX6_unavoidable_148 (by decide) ?_
                    exact ih_84742 v_84780 x_84741 ls (tr_w h_v_84780 (by decide) (by decide)) (by (first | (clear h_x_84400 c_84404_i h_84406 h_v_84747 c_84748_i h_84749; omega) | omega)) (lv_sub hl [0, 3, 4, 5, 6, 7] rfl)
                  · skip
                    have h_84779 : 0 ≤ (v_84777 : Int32).toInt ∧ (v_84777 : Int32).toInt ≤ 0 := by rw [c_84778]; exact ⟨by decide, by decide⟩
                    refine lv_goto (tgt := 138) hx hb dX6_unavoidable_128 (by decide) ?_
                    refine lv_iload_n hx hb dX6_unavoidable_138 rfl (lv_at hl 5 rfl) ?_
                    refine lv_iconst (v := 1) hx hb dX6_unavoidable_139 (by decide) ?_
                    refine lv_iload hx hb dX6_unavoidable_140 (lv_at hl 2 rfl) ?_
                    refine lv_ishl hx hb dX6_unavoidable_142 ?_
                    refine lv_topi (fun v_84781 v_84781_e => ?_)
                    refine lv_ior hx hb dX6_unavoidable_143 ?_
                    refine lv_topi (fun v_84782 v_84782_e => ?_)
                    refine lv_istore_n (lv' := [(2, .int v_84782), (7, .int 1), (6, .int r_84773), (5, .int x_84740), (3, .int x_84402), (4, .int x_84400), (0, .ref sv), (1, .ref pl)]) hx hb dX6_unavoidable_144 rfl hl (by decide) rfl (fun ls hl => ?_)
                    obtain ⟨v_84783, v_84783_e⟩ : ∃ y : Int32, y = x_84740 + Int32.ofInt 1 := ⟨_, rfl⟩
                    have h_v_84783 : 1 ≤ (v_84783 : Int32).toInt ∧ (v_84783 : Int32).toInt ≤ 12 := by rw [v_84783_e]; exact tr_add h_84744 (⟨by decide, by decide⟩ : 1 ≤ (Int32.ofInt 1 : Int32).toInt ∧ (Int32.ofInt 1 : Int32).toInt ≤ 1) (by decide) (by decide) (by decide) (by decide)
                    have q_v_84783 : v_84783.toInt = x_84740.toInt + 1 := by rw [v_84783_e]; exact tr_addE h_84744 (⟨by decide, by decide⟩ : 1 ≤ (Int32.ofInt 1 : Int32).toInt ∧ (Int32.ofInt 1 : Int32).toInt ≤ 1) (by decide) (by decide)
                    refine lv_iinc (v := v_84783) (lv' := [(5, .int v_84783), (2, .int v_84782), (7, .int 1), (6, .int r_84773), (3, .int x_84402), (4, .int x_84400), (0, .ref sv), (1, .ref pl)]) hx hb dX6_unavoidable_145 hl (k := 3) rfl v_84783_e.symm (by decide) rfl (fun ls hl => ?_)
                    refine lv_goto (tgt := 30) hx hb dX6_unavoidable_148 (by decide) ?_
                    exact ih_84742 v_84783 v_84782 ls (tr_w h_v_84783 (by decide) (by decide)) (by (first | (clear h_x_84400 c_84404_i h_84406 h_v_84747 c_84748_i h_84749 h_84779; omega) | omega)) (lv_sub hl [0, 4, 5, 1, 6, 7] rfl)
          exact lp_84742 13 0 x_84402 ls (⟨by decide, by decide⟩ : 0 ≤ (0 : Int32).toInt ∧ (0 : Int32).toInt ≤ 12) (by decide) (lv_sub hl [0, 1, 2, 3, 4, 5] rfl)
  exact lp_84403 13 0 (-1) r_81369 ls (⟨by decide, by decide⟩ : 0 ≤ (0 : Int32).toInt ∧ (0 : Int32).toInt ≤ 12) (by decide) (lv_sub hl [0, 1, 2, 3, 4] rfl)
set_option maxHeartbeats 4000000 in
set_option maxRecDepth 100000 in
theorem c_X6_findLeft (l : Launch) (D : va_G) (g : Nat → ClassId) (sz : Nat) (sv : Nat) (pl : Nat) (p0 : Int32) (p1 : Int32) (vs : Nat) (n : Nat) (co : Nat) (sv_keep : Nat) (sv_scaled : Nat) (eq : Nat) (co_place : Nat) (n_nodes : Int32) (n_kind : Nat) (n_pay : Nat) (n_name : Nat) (n_ways : Nat) (n_held : Nat) (n_targets : Nat) (n_weights : Nat) (n_fkind : Nat → Int32) (n_fpay : Nat → Int32) (n_fways : Nat → Int32) (n_fheld : Nat → Int32) (n_ftargets : Nat → Int32) (n_fweights : Nat → Int32) (pcf : Nat → Int32) (eq_rows : Nat) (eq_right : Nat) (ew : Int64) (fr : Nat → Int64) (rr : Nat → Nat) (ct : Nat → Nat → Int64) (plf : Nat → Int32) (vs_part : Nat) (vsw : Int64) (vsp : Nat → Int64) (h_n_nodes : 0 ≤ (n_nodes : Int32).toInt ∧ (n_nodes : Int32).toInt ≤ 12) (h_n_fkind : ∀ j : Nat, 0 ≤ (n_fkind j).toInt ∧ (n_fkind j).toInt ≤ 3) (h_n_fways : ∀ j : Nat, 0 ≤ (n_fways j).toInt ∧ (n_fways j).toInt ≤ 3) (h_n_fheld : ∀ j : Nat, (-1) ≤ (n_fheld j).toInt ∧ (n_fheld j).toInt ≤ 2) (h_n_ftargets : ∀ j : Nat, 0 ≤ (n_ftargets j).toInt ∧ (n_ftargets j).toInt ≤ 11) (h_pcf : ∀ j : Nat, (-1) ≤ (pcf j).toInt ∧ (pcf j).toInt ≤ 7) (h_plf : ∀ j : Nat, 0 ≤ (plf j).toInt ∧ (plf j).toInt ≤ 2) : Met l yX6_findLeft (.code yX6_findLeft cX6_findLeft 8 none :: wsL_law) ({ frames := 4, cells := 0, slots := 0, locals := 105 }) (va_Pc [.ref sv, .ref pl, .int p0, .int p1, .ref vs] (fun U => U.heap.size = sz ∧ va_P D vwCl [(wO6 sv n co sv_keep sv_scaled), (wO0 co n eq co_place), (wO2 n n_nodes n_kind n_pay n_name n_ways n_held n_targets n_weights), (wI g n_kind 0 12 n_fkind), (wI g n_pay 0 12 n_fpay), (wI g n_ways 0 12 n_fways), (wI g n_held 0 12 n_fheld), (wI g n_targets 0 36 n_ftargets), (wI g n_weights 0 36 n_fweights), (wI g co_place 0 12 pcf), (wO1 eq eq_rows eq_right ew), (wJ g eq_right 1 8 fr), (wR g eq_rows 5 8 (fun i => if i < 8 then some (rr i) else none)), (wJ g (rr 0) 1 8 (ct 0)), (wJ g (rr 1) 1 8 (ct 1)), (wJ g (rr 2) 1 8 (ct 2)), (wJ g (rr 3) 1 8 (ct 3)), (wJ g (rr 4) 1 8 (ct 4)), (wJ g (rr 5) 1 8 (ct 5)), (wJ g (rr 6) 1 8 (ct 6)), (wJ g (rr 7) 1 8 (ct 7)), (wI g pl 0 12 plf), (wO10 vs vs_part vsw), (wJ g vs_part 1 12 vsp)] U.heap ∧ va_K D vwCl (TY g) U ∧ va_D (fun _ => True) [(wO6 sv n co sv_keep sv_scaled), (wO0 co n eq co_place), (wO2 n n_nodes n_kind n_pay n_name n_ways n_held n_targets n_weights), (wI g n_kind 0 12 n_fkind), (wI g n_pay 0 12 n_fpay), (wI g n_ways 0 12 n_fways), (wI g n_held 0 12 n_fheld), (wI g n_targets 0 36 n_ftargets), (wI g n_weights 0 36 n_fweights), (wI g co_place 0 12 pcf), (wO1 eq eq_rows eq_right ew), (wJ g eq_right 1 8 fr), (wR g eq_rows 5 8 (fun i => if i < 8 then some (rr i) else none)), (wJ g (rr 0) 1 8 (ct 0)), (wJ g (rr 1) 1 8 (ct 1)), (wJ g (rr 2) 1 8 (ct 2)), (wJ g (rr 3) 1 8 (ct 3)), (wJ g (rr 4) 1 8 (ct 4)), (wJ g (rr 5) 1 8 (ct 5)), (wJ g (rr 6) 1 8 (ct 6)), (wJ g (rr 7) 1 8 (ct 7)), (wI g pl 0 12 plf), (wO10 vs vs_part vsw), (wJ g vs_part 1 12 vsp)])) (va_Qv (fun (_ : Unit) => True) (fun _ t => ∃ opc : Nat → Int32, ∃ oew : Int64, ∃ ofr : Nat → Int64, ∃ opl : Nat → Int32, ∃ ovw : Int64, ∃ ovp : Nat → Int64, ∃ oct : Nat → Nat → Int64, (∀ j : Nat, (-1) ≤ (opc j).toInt ∧ (opc j).toInt ≤ 7) ∧ (∀ j : Nat, 0 ≤ (opl j).toInt ∧ (opl j).toInt ≤ 2) ∧ va_P D vwCl [(wO6 sv n co sv_keep sv_scaled), (wO0 co n eq co_place), (wO2 n n_nodes n_kind n_pay n_name n_ways n_held n_targets n_weights), (wI g n_kind 0 12 n_fkind), (wI g n_pay 0 12 n_fpay), (wI g n_ways 0 12 n_fways), (wI g n_held 0 12 n_fheld), (wI g n_targets 0 36 n_ftargets), (wI g n_weights 0 36 n_fweights), (wI g co_place 0 12 opc), (wO1 eq eq_rows eq_right oew), (wJ g eq_right 1 8 ofr), (wR g eq_rows 5 8 (fun i => if i < 8 then some (rr i) else none)), (wJ g (rr 0) 1 8 (oct 0)), (wJ g (rr 1) 1 8 (oct 1)), (wJ g (rr 2) 1 8 (oct 2)), (wJ g (rr 3) 1 8 (oct 3)), (wJ g (rr 4) 1 8 (oct 4)), (wJ g (rr 5) 1 8 (oct 5)), (wJ g (rr 6) 1 8 (oct 6)), (wJ g (rr 7) 1 8 (oct 7)), (wI g pl 0 12 opl), (wO10 vs vs_part ovw), (wJ g vs_part 1 12 ovp)] t.heap ∧ va_D (va_A [(wO6 sv n co sv_keep sv_scaled), (wO0 co n eq co_place), (wO2 n n_nodes n_kind n_pay n_name n_ways n_held n_targets n_weights), (wI g n_kind 0 12 n_fkind), (wI g n_pay 0 12 n_fpay), (wI g n_ways 0 12 n_fways), (wI g n_held 0 12 n_fheld), (wI g n_targets 0 36 n_ftargets), (wI g n_weights 0 36 n_fweights), (wI g co_place 0 12 pcf), (wO1 eq eq_rows eq_right ew), (wJ g eq_right 1 8 fr), (wR g eq_rows 5 8 (fun i => if i < 8 then some (rr i) else none)), (wJ g (rr 0) 1 8 (ct 0)), (wJ g (rr 1) 1 8 (ct 1)), (wJ g (rr 2) 1 8 (ct 2)), (wJ g (rr 3) 1 8 (ct 3)), (wJ g (rr 4) 1 8 (ct 4)), (wJ g (rr 5) 1 8 (ct 5)), (wJ g (rr 6) 1 8 (ct 6)), (wJ g (rr 7) 1 8 (ct 7)), (wI g pl 0 12 plf), (wO10 vs vs_part vsw), (wJ g vs_part 1 12 vsp)] sz) [(wO6 sv n co sv_keep sv_scaled), (wO0 co n eq co_place), (wO2 n n_nodes n_kind n_pay n_name n_ways n_held n_targets n_weights), (wI g n_kind 0 12 n_fkind), (wI g n_pay 0 12 n_fpay), (wI g n_ways 0 12 n_fways), (wI g n_held 0 12 n_fheld), (wI g n_targets 0 36 n_ftargets), (wI g n_weights 0 36 n_fweights), (wI g co_place 0 12 opc), (wO1 eq eq_rows eq_right oew), (wJ g eq_right 1 8 ofr), (wR g eq_rows 5 8 (fun i => if i < 8 then some (rr i) else none)), (wJ g (rr 0) 1 8 (oct 0)), (wJ g (rr 1) 1 8 (oct 1)), (wJ g (rr 2) 1 8 (oct 2)), (wJ g (rr 3) 1 8 (oct 3)), (wJ g (rr 4) 1 8 (oct 4)), (wJ g (rr 5) 1 8 (oct 5)), (wJ g (rr 6) 1 8 (oct 6)), (wJ g (rr 7) 1 8 (oct 7)), (wI g pl 0 12 opl), (wO10 vs vs_part ovw), (wJ g vs_part 1 12 ovp)]) (va_A [(wO6 sv n co sv_keep sv_scaled), (wO0 co n eq co_place), (wO2 n n_nodes n_kind n_pay n_name n_ways n_held n_targets n_weights), (wI g n_kind 0 12 n_fkind), (wI g n_pay 0 12 n_fpay), (wI g n_ways 0 12 n_fways), (wI g n_held 0 12 n_fheld), (wI g n_targets 0 36 n_ftargets), (wI g n_weights 0 36 n_fweights), (wI g co_place 0 12 pcf), (wO1 eq eq_rows eq_right ew), (wJ g eq_right 1 8 fr), (wR g eq_rows 5 8 (fun i => if i < 8 then some (rr i) else none)), (wJ g (rr 0) 1 8 (ct 0)), (wJ g (rr 1) 1 8 (ct 1)), (wJ g (rr 2) 1 8 (ct 2)), (wJ g (rr 3) 1 8 (ct 3)), (wJ g (rr 4) 1 8 (ct 4)), (wJ g (rr 5) 1 8 (ct 5)), (wJ g (rr 6) 1 8 (ct 6)), (wJ g (rr 7) 1 8 (ct 7)), (wI g pl 0 12 plf), (wO10 vs vs_part vsw), (wJ g vs_part 1 12 vsp)] sz)) 0 0 (va_A [(wO6 sv n co sv_keep sv_scaled), (wO0 co n eq co_place), (wO2 n n_nodes n_kind n_pay n_name n_ways n_held n_targets n_weights), (wI g n_kind 0 12 n_fkind), (wI g n_pay 0 12 n_fpay), (wI g n_ways 0 12 n_fways), (wI g n_held 0 12 n_fheld), (wI g n_targets 0 36 n_ftargets), (wI g n_weights 0 36 n_fweights), (wI g co_place 0 12 pcf), (wO1 eq eq_rows eq_right ew), (wJ g eq_right 1 8 fr), (wR g eq_rows 5 8 (fun i => if i < 8 then some (rr i) else none)), (wJ g (rr 0) 1 8 (ct 0)), (wJ g (rr 1) 1 8 (ct 1)), (wJ g (rr 2) 1 8 (ct 2)), (wJ g (rr 3) 1 8 (ct 3)), (wJ g (rr 4) 1 8 (ct 4)), (wJ g (rr 5) 1 8 (ct 5)), (wJ g (rr 6) 1 8 (ct 6)), (wJ g (rr 7) 1 8 (ct 7)), (wI g pl 0 12 plf), (wO10 vs vs_part vsw), (wJ g vs_part 1 12 vsp)] sz) := by
  refine Met.ofW (cc := cX6_findLeft) (maxL := 8) (ret := none) (by decide) rfl ?_
  intro p e s m args below meth c s₁ B hml hv
  obtain ⟨ha, hsz, hP, hK, hD0⟩ := hv
  have hx := B.exec
  have hb := B.bytes
  have hr := B.returns
  have hts0 := atoms_spec (ws := (.code yX6_findLeft cX6_findLeft 8 none :: wsL_law)) B.pre
  have hts : ∀ w ∈ wsL_law, w.before args s = true := fun w h => hts0 w (List.mem_cons_of_mem _ h)
  have hown : s.vm.findClass RX6 = some m.cls := findClass_of_methodNamed B.named
  have hlocks := B.notSynchronized
  subst hsz
  have hD := hD0.self (sz := s.heap.size)
  generalize hAe : va_A [(wO6 sv n co sv_keep sv_scaled), (wO0 co n eq co_place), (wO2 n n_nodes n_kind n_pay n_name n_ways n_held n_targets n_weights), (wI g n_kind 0 12 n_fkind), (wI g n_pay 0 12 n_fpay), (wI g n_ways 0 12 n_fways), (wI g n_held 0 12 n_fheld), (wI g n_targets 0 36 n_ftargets), (wI g n_weights 0 36 n_fweights), (wI g co_place 0 12 pcf), (wO1 eq eq_rows eq_right ew), (wJ g eq_right 1 8 fr), (wR g eq_rows 5 8 (fun i => if i < 8 then some (rr i) else none)), (wJ g (rr 0) 1 8 (ct 0)), (wJ g (rr 1) 1 8 (ct 1)), (wJ g (rr 2) 1 8 (ct 2)), (wJ g (rr 3) 1 8 (ct 3)), (wJ g (rr 4) 1 8 (ct 4)), (wJ g (rr 5) 1 8 (ct 5)), (wJ g (rr 6) 1 8 (ct 6)), (wJ g (rr 7) 1 8 (ct 7)), (wI g pl 0 12 plf), (wO10 vs vs_part vsw), (wJ g vs_part 1 12 vsp)] s.heap.size = A at hD ⊢
  have hA : ∀ q : Nat, s.heap.size ≤ q → A q := fun q h => by rw [← hAe]; exact Or.inr h
  have hS : va_S A s.heap s.heap [] := va_S.rf
  have hP : va_P D vwCl [(wO6 sv n co sv_keep sv_scaled), (wO0 co n eq co_place), (wO2 n n_nodes n_kind n_pay n_name n_ways n_held n_targets n_weights), (wI g n_kind 0 12 n_fkind), (wI g n_pay 0 12 n_fpay), (wI g n_ways 0 12 n_fways), (wI g n_held 0 12 n_fheld), (wI g n_targets 0 36 n_ftargets), (wI g n_weights 0 36 n_fweights), (wI g co_place 0 12 pcf), (wO1 eq eq_rows eq_right ew), (wJ g eq_right 1 8 fr), (wR g eq_rows 5 8 (fun i => if i < 8 then some (rr i) else none)), (wJ g (rr 0) 1 8 (ct 0)), (wJ g (rr 1) 1 8 (ct 1)), (wJ g (rr 2) 1 8 (ct 2)), (wJ g (rr 3) 1 8 (ct 3)), (wJ g (rr 4) 1 8 (ct 4)), (wJ g (rr 5) 1 8 (ct 5)), (wJ g (rr 6) 1 8 (ct 6)), (wJ g (rr 7) 1 8 (ct 7)), (wI g pl 0 12 plf), (wO10 vs vs_part vsw), (wJ g vs_part 1 12 vsp)] s.heap := hP
  refine W.eq (g2 := entryFrame m ([.ref sv, .ref pl, .int p0, .int p1, .ref vs] : List Value).toArray 8) (by rw [ha]) ?_
  have hl := lv_entry ([.ref sv, .ref pl, .int p0, .int p1, .ref vs]) (n := 8) (Nat.le_of_ble_eq_true rfl)
  rw [lg_entry_eq]
  generalize (lg_sl ([.ref sv, .ref pl, .int p0, .int p1, .ref vs]) ++ List.replicate (8 - (lg_sl ([.ref sv, .ref pl, .int p0, .int p1, .ref vs])).length) Slot.unset).toArray = ls at hl ⊢
  have hl : lv_has ls 8 [(0, .ref sv), (1, .ref pl), (2, .int p0), (3, .int p1), (4, .ref vs)] := hl
  refine lv_aload_n hx hb dX6_findLeft_0 rfl (lv_at hl 0 rfl) ?_
  refine lv_aload_n hx hb dX6_findLeft_1 rfl (lv_at hl 1 rfl) ?_
  have hPc := hP.sub (ws' := [(wO6 sv n co sv_keep sv_scaled), (wO0 co n eq co_place), (wO2 n n_nodes n_kind n_pay n_name n_ways n_held n_targets n_weights), (wI g n_kind 0 12 n_fkind), (wI g n_pay 0 12 n_fpay), (wI g n_ways 0 12 n_fways), (wI g n_held 0 12 n_fheld), (wI g n_targets 0 36 n_ftargets), (wI g n_weights 0 36 n_fweights), (wI g pl 0 12 plf)]) [0, 1, 2, 3, 4, 5, 6, 7, 8, 21] rfl
  refine vp_callSi (va_Run.run (va_runV (As := [.ref pl]) (rest := []) ⟨hx, hb, hml, hown, hts⟩ (c_X6_unavoidable l D g sv pl n co sv_keep sv_scaled eq co_place n_nodes n_kind n_pay n_name n_ways n_held n_targets n_weights n_fkind n_fpay n_fways n_fheld n_ftargets n_fweights plf (tr_w h_n_nodes (by decide) (by decide)) (tr_wa h_n_fkind (by decide) (by decide)) (tr_wa h_n_fways (by decide) (by decide)) (tr_wa h_n_fheld (by decide) (by decide)) (tr_wa h_n_ftargets (by decide) (by decide)) (tr_wa h_plf (by decide) (by decide))) (cwV 1 hts (tz_gV qw_571 qw_572 qw_573 qw_558 qw_574) rfl rfl rfl (by decide +kernel) ⟨Nat.le_of_ble_eq_true rfl, Nat.le_of_ble_eq_true rfl⟩) ⟨tz_blS, va_recv hK hPc (ci := 6) (q0 := 0) rfl rfl, tz_preS hPc hK⟩ rfl rfl hl.1 rfl (lv_room (Nat.le_of_ble_eq_true rfl)) dX6_findLeft_2 ⟨Nat.le_of_ble_eq_true rfl, Nat.le_of_ble_eq_true rfl⟩)) (fun r_84784 hw => ?_)
  refine lv_istore (lv' := [(5, .int r_84784), (0, .ref sv), (1, .ref pl), (2, .int p0), (3, .int p1), (4, .ref vs)]) hx hb dX6_findLeft_5 hl (by decide) rfl (fun ls hl => ?_)
  refine lv_iconst (v := 1) hx hb dX6_findLeft_7 (by decide) ?_
  refine lv_istore (lv' := [(6, .int 1), (5, .int r_84784), (0, .ref sv), (1, .ref pl), (2, .int p0), (3, .int p1), (4, .ref vs)]) hx hb dX6_findLeft_8 hl (by decide) rfl (fun ls hl => ?_)
  refine lv_iconst (v := 0) hx hb dX6_findLeft_10 (by decide) ?_
  refine lv_istore (lv' := [(7, .int 0), (6, .int 1), (5, .int r_84784), (0, .ref sv), (1, .ref pl), (2, .int p0), (3, .int p1), (4, .ref vs)]) hx hb dX6_findLeft_11 hl (by decide) rfl (fun ls hl => ?_)
  have lp_85419 : ∀ (n_85419 : Nat) (ct_85410 : Nat → Nat → Int64) (x_85411 : Int32) (x_85412 : Int32) (f_85413 : Nat → Int32) (x_85414 : Int64) (f_85415 : Nat → Int64) (f_85416 : Nat → Int32) (x_85417 : Int64) (f_85418 : Nat → Int64) (H : Heap) (locs : List Loc) (ls : Array Slot), (0 ≤ (x_85411 : Int32).toInt ∧ (x_85411 : Int32).toInt ≤ 2147483647) → (0 ≤ (x_85412 : Int32).toInt ∧ (x_85412 : Int32).toInt ≤ 1) → (∀ j : Nat, (-1) ≤ (f_85413 j).toInt ∧ (f_85413 j).toInt ≤ 7) → (∀ j : Nat, 0 ≤ (f_85416 j).toInt ∧ (f_85416 j).toInt ≤ 2) → (2147483647 - x_85411.toInt < (n_85419 : Int)) → va_P D vwCl [(wO6 sv n co sv_keep sv_scaled), (wO0 co n eq co_place), (wO2 n n_nodes n_kind n_pay n_name n_ways n_held n_targets n_weights), (wI g n_kind 0 12 n_fkind), (wI g n_pay 0 12 n_fpay), (wI g n_ways 0 12 n_fways), (wI g n_held 0 12 n_fheld), (wI g n_targets 0 36 n_ftargets), (wI g n_weights 0 36 n_fweights), (wI g co_place 0 12 f_85413), (wO1 eq eq_rows eq_right x_85414), (wJ g eq_right 1 8 f_85415), (wR g eq_rows 5 8 (fun i => if i < 8 then some (rr i) else none)), (wJ g (rr 0) 1 8 (ct_85410 0)), (wJ g (rr 1) 1 8 (ct_85410 1)), (wJ g (rr 2) 1 8 (ct_85410 2)), (wJ g (rr 3) 1 8 (ct_85410 3)), (wJ g (rr 4) 1 8 (ct_85410 4)), (wJ g (rr 5) 1 8 (ct_85410 5)), (wJ g (rr 6) 1 8 (ct_85410 6)), (wJ g (rr 7) 1 8 (ct_85410 7)), (wI g pl 0 12 f_85416), (wO10 vs vs_part x_85417), (wJ g vs_part 1 12 f_85418)] H → va_D A [(wO6 sv n co sv_keep sv_scaled), (wO0 co n eq co_place), (wO2 n n_nodes n_kind n_pay n_name n_ways n_held n_targets n_weights), (wI g n_kind 0 12 n_fkind), (wI g n_pay 0 12 n_fpay), (wI g n_ways 0 12 n_fways), (wI g n_held 0 12 n_fheld), (wI g n_targets 0 36 n_ftargets), (wI g n_weights 0 36 n_fweights), (wI g co_place 0 12 f_85413), (wO1 eq eq_rows eq_right x_85414), (wJ g eq_right 1 8 f_85415), (wR g eq_rows 5 8 (fun i => if i < 8 then some (rr i) else none)), (wJ g (rr 0) 1 8 (ct_85410 0)), (wJ g (rr 1) 1 8 (ct_85410 1)), (wJ g (rr 2) 1 8 (ct_85410 2)), (wJ g (rr 3) 1 8 (ct_85410 3)), (wJ g (rr 4) 1 8 (ct_85410 4)), (wJ g (rr 5) 1 8 (ct_85410 5)), (wJ g (rr 6) 1 8 (ct_85410 6)), (wJ g (rr 7) 1 8 (ct_85410 7)), (wI g pl 0 12 f_85416), (wO10 vs vs_part x_85417), (wJ g vs_part 1 12 f_85418)] → va_S A s.heap H locs → lv_has ls 8 [(7, .int x_85411), (6, .int x_85412), (5, .int r_84784), (0, .ref sv), (1, .ref pl), (2, .int p0), (3, .int p1), (4, .ref vs)] → W p l e (headSpec (.code yX6_findLeft cX6_findLeft 8 none :: wsL_law) ({ frames := 4, cells := 0, slots := 0, locals := 105 })).room s m args below meth c H locs 0 0 (MQ below (va_Qv (fun (_ : Unit) => True) (fun _ t => ∃ opc : Nat → Int32, ∃ oew : Int64, ∃ ofr : Nat → Int64, ∃ opl : Nat → Int32, ∃ ovw : Int64, ∃ ovp : Nat → Int64, ∃ oct : Nat → Nat → Int64, (∀ j : Nat, (-1) ≤ (opc j).toInt ∧ (opc j).toInt ≤ 7) ∧ (∀ j : Nat, 0 ≤ (opl j).toInt ∧ (opl j).toInt ≤ 2) ∧ va_P D vwCl [(wO6 sv n co sv_keep sv_scaled), (wO0 co n eq co_place), (wO2 n n_nodes n_kind n_pay n_name n_ways n_held n_targets n_weights), (wI g n_kind 0 12 n_fkind), (wI g n_pay 0 12 n_fpay), (wI g n_ways 0 12 n_fways), (wI g n_held 0 12 n_fheld), (wI g n_targets 0 36 n_ftargets), (wI g n_weights 0 36 n_fweights), (wI g co_place 0 12 opc), (wO1 eq eq_rows eq_right oew), (wJ g eq_right 1 8 ofr), (wR g eq_rows 5 8 (fun i => if i < 8 then some (rr i) else none)), (wJ g (rr 0) 1 8 (oct 0)), (wJ g (rr 1) 1 8 (oct 1)), (wJ g (rr 2) 1 8 (oct 2)), (wJ g (rr 3) 1 8 (oct 3)), (wJ g (rr 4) 1 8 (oct 4)), (wJ g (rr 5) 1 8 (oct 5)), (wJ g (rr 6) 1 8 (oct 6)), (wJ g (rr 7) 1 8 (oct 7)), (wI g pl 0 12 opl), (wO10 vs vs_part ovw), (wJ g vs_part 1 12 ovp)] t.heap ∧ va_D A [(wO6 sv n co sv_keep sv_scaled), (wO0 co n eq co_place), (wO2 n n_nodes n_kind n_pay n_name n_ways n_held n_targets n_weights), (wI g n_kind 0 12 n_fkind), (wI g n_pay 0 12 n_fpay), (wI g n_ways 0 12 n_fways), (wI g n_held 0 12 n_fheld), (wI g n_targets 0 36 n_ftargets), (wI g n_weights 0 36 n_fweights), (wI g co_place 0 12 opc), (wO1 eq eq_rows eq_right oew), (wJ g eq_right 1 8 ofr), (wR g eq_rows 5 8 (fun i => if i < 8 then some (rr i) else none)), (wJ g (rr 0) 1 8 (oct 0)), (wJ g (rr 1) 1 8 (oct 1)), (wJ g (rr 2) 1 8 (oct 2)), (wJ g (rr 3) 1 8 (oct 3)), (wJ g (rr 4) 1 8 (oct 4)), (wJ g (rr 5) 1 8 (oct 5)), (wJ g (rr 6) 1 8 (oct 6)), (wJ g (rr 7) 1 8 (oct 7)), (wI g pl 0 12 opl), (wO10 vs vs_part ovw), (wJ g vs_part 1 12 ovp)]) A) args s 0 0 A) (F0 m 13 ls []) := by
    intro n_85419
    induction n_85419 with
    | zero =>
      intro ct_85410 x_85411 x_85412 f_85413 x_85414 f_85415 f_85416 x_85417 f_85418 H locs ls h_x_85411 h_x_85412 h_f_85413 h_f_85416 hm_85419 hP hD hS hl
      exfalso; omega
    | succ n_85419 ih_85419 =>
      intro ct_85410 x_85411 x_85412 f_85413 x_85414 f_85415 f_85416 x_85417 f_85418 H locs ls h_x_85411 h_x_85412 h_f_85413 h_f_85416 hm_85419 hP hD hS hl
      refine lv_iload hx hb dX6_findLeft_13 (lv_at hl 1 rfl) ?_
      refine lv_if_eq (tgt := 66) hx hb dX6_findLeft_15 (by decide) (fun c_85420 => ?_) (fun c_85420 => ?_)
      · skip
        have c_85420_i : (x_85412 : Int32).toInt = (0 : Int32).toInt := congrArg Int32.toInt c_85420
        have h_85421 : 0 ≤ (x_85412 : Int32).toInt ∧ (x_85412 : Int32).toInt ≤ 0 := nr_eq_l h_x_85412 (⟨by decide, by decide⟩ : 0 ≤ (0 : Int32).toInt ∧ (0 : Int32).toInt ≤ 0) c_85420_i (by decide) (by decide)
        have hP9 := hP.sub (ws' := [(wO6 sv n co sv_keep sv_scaled), (wO0 co n eq co_place), (wO2 n n_nodes n_kind n_pay n_name n_ways n_held n_targets n_weights), (wI g n_kind 0 12 n_fkind), (wI g n_pay 0 12 n_fpay), (wI g n_ways 0 12 n_fways), (wI g n_held 0 12 n_fheld), (wI g n_targets 0 36 n_ftargets), (wI g n_weights 0 36 n_fweights), (wI g co_place 0 12 f_85413), (wO1 eq eq_rows eq_right x_85414), (wJ g eq_right 1 8 f_85415), (wR g eq_rows 5 8 (fun i => if i < 8 then some (rr i) else none)), (wJ g (rr 0) 1 8 (ct_85410 0)), (wJ g (rr 1) 1 8 (ct_85410 1)), (wJ g (rr 2) 1 8 (ct_85410 2)), (wJ g (rr 3) 1 8 (ct_85410 3)), (wJ g (rr 4) 1 8 (ct_85410 4)), (wJ g (rr 5) 1 8 (ct_85410 5)), (wJ g (rr 6) 1 8 (ct_85410 6)), (wJ g (rr 7) 1 8 (ct_85410 7)), (wI g pl 0 12 f_85416), (wO10 vs vs_part x_85417), (wJ g vs_part 1 12 f_85418)]) [0, 1, 2, 3, 4, 5, 6, 7, 8, 9, 10, 11, 12, 13, 14, 15, 16, 17, 18, 19, 20, 21, 22, 23] rfl
        have hD9 := hD.sub (ws' := [(wO6 sv n co sv_keep sv_scaled), (wO0 co n eq co_place), (wO2 n n_nodes n_kind n_pay n_name n_ways n_held n_targets n_weights), (wI g n_kind 0 12 n_fkind), (wI g n_pay 0 12 n_fpay), (wI g n_ways 0 12 n_fways), (wI g n_held 0 12 n_fheld), (wI g n_targets 0 36 n_ftargets), (wI g n_weights 0 36 n_fweights), (wI g co_place 0 12 f_85413), (wO1 eq eq_rows eq_right x_85414), (wJ g eq_right 1 8 f_85415), (wR g eq_rows 5 8 (fun i => if i < 8 then some (rr i) else none)), (wJ g (rr 0) 1 8 (ct_85410 0)), (wJ g (rr 1) 1 8 (ct_85410 1)), (wJ g (rr 2) 1 8 (ct_85410 2)), (wJ g (rr 3) 1 8 (ct_85410 3)), (wJ g (rr 4) 1 8 (ct_85410 4)), (wJ g (rr 5) 1 8 (ct_85410 5)), (wJ g (rr 6) 1 8 (ct_85410 6)), (wJ g (rr 7) 1 8 (ct_85410 7)), (wI g pl 0 12 f_85416), (wO10 vs vs_part x_85417), (wJ g vs_part 1 12 f_85418)]) [0, 1, 2, 3, 4, 5, 6, 7, 8, 9, 10, 11, 12, 13, 14, 15, 16, 17, 18, 19, 20, 21, 22, 23] (by decide) rfl
        exact W.vret hx hb hr (fun t ht hW => ⟨⟨(), rfl, trivial, f_85413, x_85414, f_85415, f_85416, x_85417, f_85418, ct_85410, (tr_wa h_f_85413 (by decide) (by decide)), (tr_wa h_f_85416 (by decide) (by decide)), by rw [ht]; exact hP9, hD9⟩, hS.F ht⟩) hS.2.2 dX6_findLeft_66
      · skip
        have c_85420_i : ¬ (x_85412 : Int32).toInt = (0 : Int32).toInt := (fun q => c_85420 (Int32.toInt_inj.mp q))
        have h_85422 : 1 ≤ (x_85412 : Int32).toInt ∧ (x_85412 : Int32).toInt ≤ 1 := nr_ne_l h_x_85412 (⟨by decide, by decide⟩ : 0 ≤ (0 : Int32).toInt ∧ (0 : Int32).toInt ≤ 0) c_85420_i (by decide) (by decide)
        refine lv_iload hx hb dX6_findLeft_18 (lv_at hl 0 rfl) ?_
        refine lv_sipush (v := 6561) hx hb dX6_findLeft_20 (by decide) ?_
        refine lv_icmp_ge (tgt := 66) hx hb dX6_findLeft_23 (by decide) (fun c_85423 => ?_) (fun c_85423 => ?_)
        · skip
          have c_85423_i := Int32.le_iff_toInt_le.mp c_85423
          have h_85424 : 6561 ≤ (x_85411 : Int32).toInt ∧ (x_85411 : Int32).toInt ≤ 2147483647 := nr_le_r (⟨by decide, by decide⟩ : 6561 ≤ (6561 : Int32).toInt ∧ (6561 : Int32).toInt ≤ 6561) h_x_85411 c_85423_i (by decide) (by decide)
          have hP9 := hP.sub (ws' := [(wO6 sv n co sv_keep sv_scaled), (wO0 co n eq co_place), (wO2 n n_nodes n_kind n_pay n_name n_ways n_held n_targets n_weights), (wI g n_kind 0 12 n_fkind), (wI g n_pay 0 12 n_fpay), (wI g n_ways 0 12 n_fways), (wI g n_held 0 12 n_fheld), (wI g n_targets 0 36 n_ftargets), (wI g n_weights 0 36 n_fweights), (wI g co_place 0 12 f_85413), (wO1 eq eq_rows eq_right x_85414), (wJ g eq_right 1 8 f_85415), (wR g eq_rows 5 8 (fun i => if i < 8 then some (rr i) else none)), (wJ g (rr 0) 1 8 (ct_85410 0)), (wJ g (rr 1) 1 8 (ct_85410 1)), (wJ g (rr 2) 1 8 (ct_85410 2)), (wJ g (rr 3) 1 8 (ct_85410 3)), (wJ g (rr 4) 1 8 (ct_85410 4)), (wJ g (rr 5) 1 8 (ct_85410 5)), (wJ g (rr 6) 1 8 (ct_85410 6)), (wJ g (rr 7) 1 8 (ct_85410 7)), (wI g pl 0 12 f_85416), (wO10 vs vs_part x_85417), (wJ g vs_part 1 12 f_85418)]) [0, 1, 2, 3, 4, 5, 6, 7, 8, 9, 10, 11, 12, 13, 14, 15, 16, 17, 18, 19, 20, 21, 22, 23] rfl
          have hD9 := hD.sub (ws' := [(wO6 sv n co sv_keep sv_scaled), (wO0 co n eq co_place), (wO2 n n_nodes n_kind n_pay n_name n_ways n_held n_targets n_weights), (wI g n_kind 0 12 n_fkind), (wI g n_pay 0 12 n_fpay), (wI g n_ways 0 12 n_fways), (wI g n_held 0 12 n_fheld), (wI g n_targets 0 36 n_ftargets), (wI g n_weights 0 36 n_fweights), (wI g co_place 0 12 f_85413), (wO1 eq eq_rows eq_right x_85414), (wJ g eq_right 1 8 f_85415), (wR g eq_rows 5 8 (fun i => if i < 8 then some (rr i) else none)), (wJ g (rr 0) 1 8 (ct_85410 0)), (wJ g (rr 1) 1 8 (ct_85410 1)), (wJ g (rr 2) 1 8 (ct_85410 2)), (wJ g (rr 3) 1 8 (ct_85410 3)), (wJ g (rr 4) 1 8 (ct_85410 4)), (wJ g (rr 5) 1 8 (ct_85410 5)), (wJ g (rr 6) 1 8 (ct_85410 6)), (wJ g (rr 7) 1 8 (ct_85410 7)), (wI g pl 0 12 f_85416), (wO10 vs vs_part x_85417), (wJ g vs_part 1 12 f_85418)]) [0, 1, 2, 3, 4, 5, 6, 7, 8, 9, 10, 11, 12, 13, 14, 15, 16, 17, 18, 19, 20, 21, 22, 23] (by decide) rfl
          exact W.vret hx hb hr (fun t ht hW => ⟨⟨(), rfl, trivial, f_85413, x_85414, f_85415, f_85416, x_85417, f_85418, ct_85410, (tr_wa h_f_85413 (by decide) (by decide)), (tr_wa h_f_85416 (by decide) (by decide)), by rw [ht]; exact hP9, hD9⟩, hS.F ht⟩) hS.2.2 dX6_findLeft_66
        · skip
          have c_85423_i := Int32.lt_iff_toInt_lt.mp (Int32.not_le.mp c_85423)
          have h_85425 : 0 ≤ (x_85411 : Int32).toInt ∧ (x_85411 : Int32).toInt ≤ 6560 := nr_lt_l h_x_85411 (⟨by decide, by decide⟩ : 6561 ≤ (6561 : Int32).toInt ∧ (6561 : Int32).toInt ≤ 6561) c_85423_i (by decide) (by decide)
          refine lv_aload_n hx hb dX6_findLeft_26 rfl (lv_at hl 3 rfl) ?_
          refine va_get (D := D) (ci := 6) (v := .ref co) (C := RX6) (T := TX6) (N := 4) hx hb hts inlX6 hown hK hP 0 rfl rfl 1 (by decide) (hts (Cond.fieldLink RX6 28 "ChanceRings$Solver" "course" "LChanceRings$Course;") qw_565) (fun _ h9 => h9) rfl dX6_findLeft_27 ?_
          refine lv_aload_n hx hb dX6_findLeft_30 rfl (lv_at hl 4 rfl) ?_
          refine lv_iload hx hb dX6_findLeft_31 (lv_at hl 2 rfl) ?_
          refine lv_iload_n hx hb dX6_findLeft_33 rfl (lv_at hl 5 rfl) ?_
          refine lv_iload_n hx hb dX6_findLeft_34 rfl (lv_at hl 6 rfl) ?_
          refine lv_aload hx hb dX6_findLeft_35 (lv_at hl 7 rfl) ?_
          have hPc := hP.sub (ws' := [(wO0 co n eq co_place), (wO2 n n_nodes n_kind n_pay n_name n_ways n_held n_targets n_weights), (wI g n_kind 0 12 n_fkind), (wI g n_pay 0 12 n_fpay), (wI g n_ways 0 12 n_fways), (wI g n_held 0 12 n_fheld), (wI g n_targets 0 36 n_ftargets), (wI g n_weights 0 36 n_fweights), (wI g co_place 0 12 f_85413), (wO1 eq eq_rows eq_right x_85414), (wJ g eq_right 1 8 f_85415), (wR g eq_rows 5 8 (fun i => if i < 8 then some (rr i) else none)), (wJ g (rr 0) 1 8 (ct_85410 0)), (wJ g (rr 1) 1 8 (ct_85410 1)), (wJ g (rr 2) 1 8 (ct_85410 2)), (wJ g (rr 3) 1 8 (ct_85410 3)), (wJ g (rr 4) 1 8 (ct_85410 4)), (wJ g (rr 5) 1 8 (ct_85410 5)), (wJ g (rr 6) 1 8 (ct_85410 6)), (wJ g (rr 7) 1 8 (ct_85410 7)), (wI g pl 0 12 f_85416), (wO10 vs vs_part x_85417), (wJ g vs_part 1 12 f_85418)]) [1, 2, 3, 4, 5, 6, 7, 8, 9, 10, 11, 12, 13, 14, 15, 16, 17, 18, 19, 20, 21, 22, 23] rfl
          have hDc := hD.sub (ws' := [(wO0 co n eq co_place), (wO2 n n_nodes n_kind n_pay n_name n_ways n_held n_targets n_weights), (wI g n_kind 0 12 n_fkind), (wI g n_pay 0 12 n_fpay), (wI g n_ways 0 12 n_fways), (wI g n_held 0 12 n_fheld), (wI g n_targets 0 36 n_ftargets), (wI g n_weights 0 36 n_fweights), (wI g co_place 0 12 f_85413), (wO1 eq eq_rows eq_right x_85414), (wJ g eq_right 1 8 f_85415), (wR g eq_rows 5 8 (fun i => if i < 8 then some (rr i) else none)), (wJ g (rr 0) 1 8 (ct_85410 0)), (wJ g (rr 1) 1 8 (ct_85410 1)), (wJ g (rr 2) 1 8 (ct_85410 2)), (wJ g (rr 3) 1 8 (ct_85410 3)), (wJ g (rr 4) 1 8 (ct_85410 4)), (wJ g (rr 5) 1 8 (ct_85410 5)), (wJ g (rr 6) 1 8 (ct_85410 6)), (wJ g (rr 7) 1 8 (ct_85410 7)), (wI g pl 0 12 f_85416), (wO10 vs vs_part x_85417), (wJ g vs_part 1 12 f_85418)]) [1, 2, 3, 4, 5, 6, 7, 8, 9, 10, 11, 12, 13, 14, 15, 16, 17, 18, 19, 20, 21, 22, 23] (by decide) rfl
          have hFc := va_free (wc := [(wO0 co n eq co_place), (wO2 n n_nodes n_kind n_pay n_name n_ways n_held n_targets n_weights), (wI g n_kind 0 12 n_fkind), (wI g n_pay 0 12 n_fpay), (wI g n_ways 0 12 n_fways), (wI g n_held 0 12 n_fheld), (wI g n_targets 0 36 n_ftargets), (wI g n_weights 0 36 n_fweights), (wI g co_place 0 12 f_85413), (wO1 eq eq_rows eq_right x_85414), (wJ g eq_right 1 8 f_85415), (wR g eq_rows 5 8 (fun i => if i < 8 then some (rr i) else none)), (wJ g (rr 0) 1 8 (ct_85410 0)), (wJ g (rr 1) 1 8 (ct_85410 1)), (wJ g (rr 2) 1 8 (ct_85410 2)), (wJ g (rr 3) 1 8 (ct_85410 3)), (wJ g (rr 4) 1 8 (ct_85410 4)), (wJ g (rr 5) 1 8 (ct_85410 5)), (wJ g (rr 6) 1 8 (ct_85410 6)), (wJ g (rr 7) 1 8 (ct_85410 7)), (wI g pl 0 12 f_85416), (wO10 vs vs_part x_85417), (wJ g vs_part 1 12 f_85418)]) hD hS hA [1, 2, 3, 4, 5, 6, 7, 8, 9, 10, 11, 12, 13, 14, 15, 16, 17, 18, 19, 20, 21, 22, 23] rfl
          refine va_callv (va_runV (As := [.ref pl, .int r_84784, .int p0, .int p1, .ref vs]) (rest := []) ⟨hx, hb, hml, hown, hts⟩ (c_X0_expectPay l D g H.size co pl r_84784 p0 p1 vs n eq co_place n_nodes n_kind n_pay n_name n_ways n_held n_targets n_weights n_fkind n_fpay n_fways n_fheld n_ftargets n_fweights f_85413 eq_rows eq_right x_85414 f_85415 rr ct_85410 f_85416 vs_part x_85417 f_85418 (tr_w h_n_nodes (by decide) (by decide)) (tr_wa h_n_fkind (by decide) (by decide)) (tr_wa h_n_fways (by decide) (by decide)) (tr_wa h_n_fheld (by decide) (by decide)) (tr_wa h_n_ftargets (by decide) (by decide)) (tr_wa h_f_85413 (by decide) (by decide)) (tr_wa h_f_85416 (by decide) (by decide))) (cwV 5 hts (tz_gV qw_575 qw_576 qw_577 qw_490 qw_578) rfl rfl rfl (by decide +kernel) ⟨Nat.le_of_ble_eq_true rfl, Nat.le_of_ble_eq_true rfl⟩) ⟨tz_blQ, va_recv hK hPc (ci := 0) (q0 := 0) rfl rfl, tz_preQ hPc hK hDc⟩ rfl rfl hl.1 rfl (lv_room (Nat.le_of_ble_eq_true rfl)) dX6_findLeft_37 ⟨Nat.le_of_ble_eq_true rfl, Nat.le_of_ble_eq_true rfl⟩) hS (fun q _ h => hFc q h) hFc (fun u t H1 locs ht hvm hw hB hz1 hk1 hS => ?_)
          obtain ⟨opc_85427, oew_85428, ofr_85429, ovw_85430, ovp_85431, oct_85432, hf_85433, hP1, hD1⟩ := hB
          rw [ht] at hP1
          obtain ⟨hP, hD⟩ := va_join (wr := [(wO6 sv n co sv_keep sv_scaled)]) (w1 := [(wO0 co n eq co_place), (wO2 n n_nodes n_kind n_pay n_name n_ways n_held n_targets n_weights), (wI g n_kind 0 12 n_fkind), (wI g n_pay 0 12 n_fpay), (wI g n_ways 0 12 n_fways), (wI g n_held 0 12 n_fheld), (wI g n_targets 0 36 n_ftargets), (wI g n_weights 0 36 n_fweights), (wI g co_place 0 12 opc_85427), (wO1 eq eq_rows eq_right oew_85428), (wJ g eq_right 1 8 ofr_85429), (wR g eq_rows 5 8 (fun i => if i < 8 then some (rr i) else none)), (wJ g (rr 0) 1 8 (oct_85432 0)), (wJ g (rr 1) 1 8 (oct_85432 1)), (wJ g (rr 2) 1 8 (oct_85432 2)), (wJ g (rr 3) 1 8 (oct_85432 3)), (wJ g (rr 4) 1 8 (oct_85432 4)), (wJ g (rr 5) 1 8 (oct_85432 5)), (wJ g (rr 6) 1 8 (oct_85432 6)), (wJ g (rr 7) 1 8 (oct_85432 7)), (wI g pl 0 12 f_85416), (wO10 vs vs_part ovw_85430), (wJ g vs_part 1 12 ovp_85431)]) hP hD [1, 2, 3, 4, 5, 6, 7, 8, 9, 10, 11, 12, 13, 14, 15, 16, 17, 18, 19, 20, 21, 22, 23] [0] rfl rfl (by decide) (by decide) hk1 hFc hP1 hD1
          generalize H1 = H at hP hS ⊢
          have hP : va_P D vwCl [(wO6 sv n co sv_keep sv_scaled), (wO0 co n eq co_place), (wO2 n n_nodes n_kind n_pay n_name n_ways n_held n_targets n_weights), (wI g n_kind 0 12 n_fkind), (wI g n_pay 0 12 n_fpay), (wI g n_ways 0 12 n_fways), (wI g n_held 0 12 n_fheld), (wI g n_targets 0 36 n_ftargets), (wI g n_weights 0 36 n_fweights), (wI g co_place 0 12 opc_85427), (wO1 eq eq_rows eq_right oew_85428), (wJ g eq_right 1 8 ofr_85429), (wR g eq_rows 5 8 (fun i => if i < 8 then some (rr i) else none)), (wJ g (rr 0) 1 8 (oct_85432 0)), (wJ g (rr 1) 1 8 (oct_85432 1)), (wJ g (rr 2) 1 8 (oct_85432 2)), (wJ g (rr 3) 1 8 (oct_85432 3)), (wJ g (rr 4) 1 8 (oct_85432 4)), (wJ g (rr 5) 1 8 (oct_85432 5)), (wJ g (rr 6) 1 8 (oct_85432 6)), (wJ g (rr 7) 1 8 (oct_85432 7)), (wI g pl 0 12 f_85416), (wO10 vs vs_part ovw_85430), (wJ g vs_part 1 12 ovp_85431)] H := hP
          have hD : va_D A [(wO6 sv n co sv_keep sv_scaled), (wO0 co n eq co_place), (wO2 n n_nodes n_kind n_pay n_name n_ways n_held n_targets n_weights), (wI g n_kind 0 12 n_fkind), (wI g n_pay 0 12 n_fpay), (wI g n_ways 0 12 n_fways), (wI g n_held 0 12 n_fheld), (wI g n_targets 0 36 n_ftargets), (wI g n_weights 0 36 n_fweights), (wI g co_place 0 12 opc_85427), (wO1 eq eq_rows eq_right oew_85428), (wJ g eq_right 1 8 ofr_85429), (wR g eq_rows 5 8 (fun i => if i < 8 then some (rr i) else none)), (wJ g (rr 0) 1 8 (oct_85432 0)), (wJ g (rr 1) 1 8 (oct_85432 1)), (wJ g (rr 2) 1 8 (oct_85432 2)), (wJ g (rr 3) 1 8 (oct_85432 3)), (wJ g (rr 4) 1 8 (oct_85432 4)), (wJ g (rr 5) 1 8 (oct_85432 5)), (wJ g (rr 6) 1 8 (oct_85432 6)), (wJ g (rr 7) 1 8 (oct_85432 7)), (wI g pl 0 12 f_85416), (wO10 vs vs_part ovw_85430), (wJ g vs_part 1 12 ovp_85431)] := hD
          refine lv_aload_n hx hb dX6_findLeft_40 rfl (lv_at hl 3 rfl) ?_
          refine lv_iconst (v := 2) hx hb dX6_findLeft_41 (by decide) ?_
          refine lv_aload_n hx hb dX6_findLeft_42 rfl (lv_at hl 4 rfl) ?_
          refine lv_aload hx hb dX6_findLeft_43 (lv_at hl 7 rfl) ?_
          refine lv_iload hx hb dX6_findLeft_45 (lv_at hl 2 rfl) ?_
          have hPc := hP.sub (ws' := [(wO6 sv n co sv_keep sv_scaled), (wO2 n n_nodes n_kind n_pay n_name n_ways n_held n_targets n_weights), (wI g n_kind 0 12 n_fkind), (wI g n_ways 0 12 n_fways), (wI g n_held 0 12 n_fheld), (wI g n_targets 0 36 n_ftargets), (wO10 vs vs_part ovw_85430), (wJ g vs_part 1 12 ovp_85431), (wI g pl 0 12 f_85416)]) [0, 2, 3, 5, 6, 7, 22, 23, 21] rfl
          have hDc := hD.sub (ws' := [(wO6 sv n co sv_keep sv_scaled), (wO2 n n_nodes n_kind n_pay n_name n_ways n_held n_targets n_weights), (wI g n_kind 0 12 n_fkind), (wI g n_ways 0 12 n_fways), (wI g n_held 0 12 n_fheld), (wI g n_targets 0 36 n_ftargets), (wO10 vs vs_part ovw_85430), (wJ g vs_part 1 12 ovp_85431), (wI g pl 0 12 f_85416)]) [0, 2, 3, 5, 6, 7, 22, 23, 21] (by decide) rfl
          have hFc := va_free (wc := [(wO6 sv n co sv_keep sv_scaled), (wO2 n n_nodes n_kind n_pay n_name n_ways n_held n_targets n_weights), (wI g n_kind 0 12 n_fkind), (wI g n_ways 0 12 n_fways), (wI g n_held 0 12 n_fheld), (wI g n_targets 0 36 n_ftargets), (wO10 vs vs_part ovw_85430), (wJ g vs_part 1 12 ovp_85431), (wI g pl 0 12 f_85416)]) hD hS hA [0, 2, 3, 5, 6, 7, 22, 23, 21] rfl
          refine va_calli (va_runV (As := [.int 2, .ref pl, .ref vs, .int r_84784]) (rest := []) ⟨hx, hb, hml, hown, hts⟩ (c_X6_turnOpen l D g H.size sv 2 pl vs r_84784 n co sv_keep sv_scaled n_nodes n_kind n_pay n_name n_ways n_held n_targets n_weights n_fkind n_fways n_fheld n_ftargets vs_part ovw_85430 ovp_85431 f_85416 (tr_w h_n_nodes (by decide) (by decide)) (tr_wa h_n_fkind (by decide) (by decide)) (tr_wa h_n_fways (by decide) (by decide)) (tr_wa h_n_fheld (by decide) (by decide)) (tr_wa h_n_ftargets (by decide) (by decide)) (tr_wa h_f_85416 (by decide) (by decide))) (cwV 4 hts (tz_gV qw_560 qw_561 qw_562 qw_558 qw_563) rfl rfl rfl (by decide +kernel) ⟨Nat.le_of_ble_eq_true rfl, Nat.le_of_ble_eq_true rfl⟩) ⟨tz_blQ, va_recv hK hPc (ci := 6) (q0 := 0) rfl rfl, tz_preQ hPc hK hDc⟩ rfl rfl hl.1 rfl (lv_room (Nat.le_of_ble_eq_true rfl)) dX6_findLeft_47 ⟨Nat.le_of_ble_eq_true rfl, Nat.le_of_ble_eq_true rfl⟩) hS (fun q _ h => hFc q h) hFc (fun r_85434 u t H1 locs ht hvm hw hB hz1 hk1 hS => ?_)
          obtain ⟨opl_85435, hf_85436, hP1, hD1⟩ := hB
          rw [ht] at hP1
          obtain ⟨hP, hD⟩ := va_join (wr := [(wO0 co n eq co_place), (wI g n_pay 0 12 n_fpay), (wI g n_weights 0 36 n_fweights), (wI g co_place 0 12 opc_85427), (wO1 eq eq_rows eq_right oew_85428), (wJ g eq_right 1 8 ofr_85429), (wR g eq_rows 5 8 (fun i => if i < 8 then some (rr i) else none)), (wJ g (rr 0) 1 8 (oct_85432 0)), (wJ g (rr 1) 1 8 (oct_85432 1)), (wJ g (rr 2) 1 8 (oct_85432 2)), (wJ g (rr 3) 1 8 (oct_85432 3)), (wJ g (rr 4) 1 8 (oct_85432 4)), (wJ g (rr 5) 1 8 (oct_85432 5)), (wJ g (rr 6) 1 8 (oct_85432 6)), (wJ g (rr 7) 1 8 (oct_85432 7))]) (w1 := [(wO6 sv n co sv_keep sv_scaled), (wO2 n n_nodes n_kind n_pay n_name n_ways n_held n_targets n_weights), (wI g n_kind 0 12 n_fkind), (wI g n_ways 0 12 n_fways), (wI g n_held 0 12 n_fheld), (wI g n_targets 0 36 n_ftargets), (wO10 vs vs_part ovw_85430), (wJ g vs_part 1 12 ovp_85431), (wI g pl 0 12 opl_85435)]) hP hD [0, 2, 3, 5, 6, 7, 22, 23, 21] [1, 4, 8, 9, 10, 11, 12, 13, 14, 15, 16, 17, 18, 19, 20] rfl rfl (by decide) (by decide) hk1 hFc hP1 hD1
          generalize H1 = H at hP hS ⊢
          have hP : va_P D vwCl [(wO0 co n eq co_place), (wI g n_pay 0 12 n_fpay), (wI g n_weights 0 36 n_fweights), (wI g co_place 0 12 opc_85427), (wO1 eq eq_rows eq_right oew_85428), (wJ g eq_right 1 8 ofr_85429), (wR g eq_rows 5 8 (fun i => if i < 8 then some (rr i) else none)), (wJ g (rr 0) 1 8 (oct_85432 0)), (wJ g (rr 1) 1 8 (oct_85432 1)), (wJ g (rr 2) 1 8 (oct_85432 2)), (wJ g (rr 3) 1 8 (oct_85432 3)), (wJ g (rr 4) 1 8 (oct_85432 4)), (wJ g (rr 5) 1 8 (oct_85432 5)), (wJ g (rr 6) 1 8 (oct_85432 6)), (wJ g (rr 7) 1 8 (oct_85432 7)), (wO6 sv n co sv_keep sv_scaled), (wO2 n n_nodes n_kind n_pay n_name n_ways n_held n_targets n_weights), (wI g n_kind 0 12 n_fkind), (wI g n_ways 0 12 n_fways), (wI g n_held 0 12 n_fheld), (wI g n_targets 0 36 n_ftargets), (wO10 vs vs_part ovw_85430), (wJ g vs_part 1 12 ovp_85431), (wI g pl 0 12 opl_85435)] H := hP
          have hD : va_D A [(wO0 co n eq co_place), (wI g n_pay 0 12 n_fpay), (wI g n_weights 0 36 n_fweights), (wI g co_place 0 12 opc_85427), (wO1 eq eq_rows eq_right oew_85428), (wJ g eq_right 1 8 ofr_85429), (wR g eq_rows 5 8 (fun i => if i < 8 then some (rr i) else none)), (wJ g (rr 0) 1 8 (oct_85432 0)), (wJ g (rr 1) 1 8 (oct_85432 1)), (wJ g (rr 2) 1 8 (oct_85432 2)), (wJ g (rr 3) 1 8 (oct_85432 3)), (wJ g (rr 4) 1 8 (oct_85432 4)), (wJ g (rr 5) 1 8 (oct_85432 5)), (wJ g (rr 6) 1 8 (oct_85432 6)), (wJ g (rr 7) 1 8 (oct_85432 7)), (wO6 sv n co sv_keep sv_scaled), (wO2 n n_nodes n_kind n_pay n_name n_ways n_held n_targets n_weights), (wI g n_kind 0 12 n_fkind), (wI g n_ways 0 12 n_fways), (wI g n_held 0 12 n_fheld), (wI g n_targets 0 36 n_ftargets), (wO10 vs vs_part ovw_85430), (wJ g vs_part 1 12 ovp_85431), (wI g pl 0 12 opl_85435)] := hD
          refine lv_if_le (tgt := 57) hx hb dX6_findLeft_50 (by decide) (fun c_85437 => ?_) (fun c_85437 => ?_)
          · skip
            have c_85437_i := Int32.le_iff_toInt_le.mp c_85437
            have h_85438 : (-2147483648) ≤ (r_85434 : Int32).toInt ∧ (r_85434 : Int32).toInt ≤ 0 := nr_le_l (tr_any r_85434) (⟨by decide, by decide⟩ : 0 ≤ (0 : Int32).toInt ∧ (0 : Int32).toInt ≤ 0) c_85437_i (by decide) (by decide)
            refine lv_iconst (v := 0) hx hb dX6_findLeft_57 (by decide) ?_
            refine lv_istore (lv' := [(6, .int 0), (7, .int x_85411), (5, .int r_84784), (0, .ref sv), (1, .ref pl), (2, .int p0), (3, .int p1), (4, .ref vs)]) hx hb dX6_findLeft_58 hl (by decide) rfl (fun ls hl => ?_)
            obtain ⟨v_85440, v_85440_e⟩ : ∃ y : Int32, y = x_85411 + Int32.ofInt 1 := ⟨_, rfl⟩
            have h_v_85440 : 1 ≤ (v_85440 : Int32).toInt ∧ (v_85440 : Int32).toInt ≤ 6561 := by rw [v_85440_e]; exact tr_add h_85425 (⟨by decide, by decide⟩ : 1 ≤ (Int32.ofInt 1 : Int32).toInt ∧ (Int32.ofInt 1 : Int32).toInt ≤ 1) (by decide) (by decide) (by decide) (by decide)
            have q_v_85440 : v_85440.toInt = x_85411.toInt + 1 := by rw [v_85440_e]; exact tr_addE h_85425 (⟨by decide, by decide⟩ : 1 ≤ (Int32.ofInt 1 : Int32).toInt ∧ (Int32.ofInt 1 : Int32).toInt ≤ 1) (by decide) (by decide)
            refine lv_iinc (v := v_85440) (lv' := [(7, .int v_85440), (6, .int 0), (5, .int r_84784), (0, .ref sv), (1, .ref pl), (2, .int p0), (3, .int p1), (4, .ref vs)]) hx hb dX6_findLeft_60 hl (k := 1) rfl v_85440_e.symm (by decide) rfl (fun ls hl => ?_)
            refine lv_goto (tgt := 13) hx hb dX6_findLeft_63 (by decide) ?_
            exact ih_85419 oct_85432 v_85440 0 opc_85427 oew_85428 ofr_85429 opl_85435 ovw_85430 ovp_85431 H _ ls (tr_w h_v_85440 (by decide) (by decide)) (⟨by decide, by decide⟩ : 0 ≤ (0 : Int32).toInt ∧ (0 : Int32).toInt ≤ 1) (tr_wa hf_85433 (by decide) (by decide)) (tr_wa hf_85436 (by decide) (by decide)) (by (first | (clear h_x_85412 h_f_85413 h_f_85416 c_85420_i h_85422 c_85437_i h_85438; omega) | omega)) (hP.sub [15, 0, 16, 17, 1, 18, 19, 20, 2, 3, 4, 5, 6, 7, 8, 9, 10, 11, 12, 13, 14, 23, 21, 22] rfl) (hD.sub [15, 0, 16, 17, 1, 18, 19, 20, 2, 3, 4, 5, 6, 7, 8, 9, 10, 11, 12, 13, 14, 23, 21, 22] (by decide) rfl) hS (lv_sub hl [0, 1, 2, 3, 4, 5, 6, 7] rfl)
          · skip
            have c_85437_i := Int32.lt_iff_toInt_lt.mp (Int32.not_le.mp c_85437)
            have h_85439 : 1 ≤ (r_85434 : Int32).toInt ∧ (r_85434 : Int32).toInt ≤ 2147483647 := nr_lt_r (⟨by decide, by decide⟩ : 0 ≤ (0 : Int32).toInt ∧ (0 : Int32).toInt ≤ 0) (tr_any r_85434) c_85437_i (by decide) (by decide)
            refine lv_iconst (v := 1) hx hb dX6_findLeft_53 (by decide) ?_
            refine lv_goto (tgt := 58) hx hb dX6_findLeft_54 (by decide) ?_
            refine lv_istore (lv' := [(6, .int 1), (7, .int x_85411), (5, .int r_84784), (0, .ref sv), (1, .ref pl), (2, .int p0), (3, .int p1), (4, .ref vs)]) hx hb dX6_findLeft_58 hl (by decide) rfl (fun ls hl => ?_)
            obtain ⟨v_85441, v_85441_e⟩ : ∃ y : Int32, y = x_85411 + Int32.ofInt 1 := ⟨_, rfl⟩
            have h_v_85441 : 1 ≤ (v_85441 : Int32).toInt ∧ (v_85441 : Int32).toInt ≤ 6561 := by rw [v_85441_e]; exact tr_add h_85425 (⟨by decide, by decide⟩ : 1 ≤ (Int32.ofInt 1 : Int32).toInt ∧ (Int32.ofInt 1 : Int32).toInt ≤ 1) (by decide) (by decide) (by decide) (by decide)
            have q_v_85441 : v_85441.toInt = x_85411.toInt + 1 := by rw [v_85441_e]; exact tr_addE h_85425 (⟨by decide, by decide⟩ : 1 ≤ (Int32.ofInt 1 : Int32).toInt ∧ (Int32.ofInt 1 : Int32).toInt ≤ 1) (by decide) (by decide)
            refine lv_iinc (v := v_85441) (lv' := [(7, .int v_85441), (6, .int 1), (5, .int r_84784), (0, .ref sv), (1, .ref pl), (2, .int p0), (3, .int p1), (4, .ref vs)]) hx hb dX6_findLeft_60 hl (k := 1) rfl v_85441_e.symm (by decide) rfl (fun ls hl => ?_)
            refine lv_goto (tgt := 13) hx hb dX6_findLeft_63 (by decide) ?_
            exact ih_85419 oct_85432 v_85441 1 opc_85427 oew_85428 ofr_85429 opl_85435 ovw_85430 ovp_85431 H _ ls (tr_w h_v_85441 (by decide) (by decide)) (⟨by decide, by decide⟩ : 0 ≤ (1 : Int32).toInt ∧ (1 : Int32).toInt ≤ 1) (tr_wa hf_85433 (by decide) (by decide)) (tr_wa hf_85436 (by decide) (by decide)) (by (first | (clear h_x_85412 h_f_85413 h_f_85416 c_85420_i h_85422 c_85437_i h_85439; omega) | omega)) (hP.sub [15, 0, 16, 17, 1, 18, 19, 20, 2, 3, 4, 5, 6, 7, 8, 9, 10, 11, 12, 13, 14, 23, 21, 22] rfl) (hD.sub [15, 0, 16, 17, 1, 18, 19, 20, 2, 3, 4, 5, 6, 7, 8, 9, 10, 11, 12, 13, 14, 23, 21, 22] (by decide) rfl) hS (lv_sub hl [0, 1, 2, 3, 4, 5, 6, 7] rfl)
  exact lp_85419 2147483648 ct 0 1 pcf ew fr plf vsw vsp s.heap _ ls (⟨by decide, by decide⟩ : 0 ≤ (0 : Int32).toInt ∧ (0 : Int32).toInt ≤ 2147483647) (⟨by decide, by decide⟩ : 0 ≤ (1 : Int32).toInt ∧ (1 : Int32).toInt ≤ 1) (tr_wa h_pcf (by decide) (by decide)) (tr_wa h_plf (by decide) (by decide)) (by decide) (hP.sub [0, 1, 2, 3, 4, 5, 6, 7, 8, 9, 10, 11, 12, 13, 14, 15, 16, 17, 18, 19, 20, 21, 22, 23] rfl) (hD.sub [0, 1, 2, 3, 4, 5, 6, 7, 8, 9, 10, 11, 12, 13, 14, 15, 16, 17, 18, 19, 20, 21, 22, 23] (by decide) rfl) hS (lv_sub hl [0, 1, 2, 3, 4, 5, 6, 7] rfl)
set_option maxHeartbeats 4000000 in
set_option maxRecDepth 100000 in
theorem c_X6_findWorth (l : Launch) (D : va_G) (g : Nat → ClassId) (sz : Nat) (sv : Nat) (pl : Nat) (p0 : Int32) (p1 : Int32) (vs : Nat) (n : Nat) (co : Nat) (sv_keep : Nat) (sv_scaled : Nat) (eq : Nat) (co_place : Nat) (n_nodes : Int32) (n_kind : Nat) (n_pay : Nat) (n_name : Nat) (n_ways : Nat) (n_held : Nat) (n_targets : Nat) (n_weights : Nat) (n_fkind : Nat → Int32) (n_fpay : Nat → Int32) (n_fways : Nat → Int32) (n_fheld : Nat → Int32) (n_ftargets : Nat → Int32) (n_fweights : Nat → Int32) (pcf : Nat → Int32) (eq_rows : Nat) (eq_right : Nat) (ew : Int64) (fr : Nat → Int64) (rr : Nat → Nat) (ct : Nat → Nat → Int64) (plf : Nat → Int32) (vs_part : Nat) (vsw : Int64) (vsp : Nat → Int64) (h_n_nodes : 0 ≤ (n_nodes : Int32).toInt ∧ (n_nodes : Int32).toInt ≤ 12) (h_n_fkind : ∀ j : Nat, 0 ≤ (n_fkind j).toInt ∧ (n_fkind j).toInt ≤ 3) (h_n_fways : ∀ j : Nat, 0 ≤ (n_fways j).toInt ∧ (n_fways j).toInt ≤ 3) (h_n_fheld : ∀ j : Nat, (-1) ≤ (n_fheld j).toInt ∧ (n_fheld j).toInt ≤ 2) (h_n_ftargets : ∀ j : Nat, 0 ≤ (n_ftargets j).toInt ∧ (n_ftargets j).toInt ≤ 11) (h_pcf : ∀ j : Nat, (-1) ≤ (pcf j).toInt ∧ (pcf j).toInt ≤ 7) (h_plf : ∀ j : Nat, 0 ≤ (plf j).toInt ∧ (plf j).toInt ≤ 2) : Met l yX6_findWorth (.code yX6_findWorth cX6_findWorth 7 none :: wsL_law) ({ frames := 5, cells := 0, slots := 0, locals := 132 }) (va_Pc [.ref sv, .ref pl, .int p0, .int p1, .ref vs] (fun U => U.heap.size = sz ∧ va_P D vwCl [(wO6 sv n co sv_keep sv_scaled), (wO0 co n eq co_place), (wO2 n n_nodes n_kind n_pay n_name n_ways n_held n_targets n_weights), (wI g n_kind 0 12 n_fkind), (wI g n_pay 0 12 n_fpay), (wI g n_ways 0 12 n_fways), (wI g n_held 0 12 n_fheld), (wI g n_targets 0 36 n_ftargets), (wI g n_weights 0 36 n_fweights), (wI g co_place 0 12 pcf), (wO1 eq eq_rows eq_right ew), (wJ g eq_right 1 8 fr), (wR g eq_rows 5 8 (fun i => if i < 8 then some (rr i) else none)), (wJ g (rr 0) 1 8 (ct 0)), (wJ g (rr 1) 1 8 (ct 1)), (wJ g (rr 2) 1 8 (ct 2)), (wJ g (rr 3) 1 8 (ct 3)), (wJ g (rr 4) 1 8 (ct 4)), (wJ g (rr 5) 1 8 (ct 5)), (wJ g (rr 6) 1 8 (ct 6)), (wJ g (rr 7) 1 8 (ct 7)), (wI g pl 0 12 plf), (wO10 vs vs_part vsw), (wJ g vs_part 1 12 vsp)] U.heap ∧ va_K D vwCl (TY g) U ∧ va_D (fun _ => True) [(wO6 sv n co sv_keep sv_scaled), (wO0 co n eq co_place), (wO2 n n_nodes n_kind n_pay n_name n_ways n_held n_targets n_weights), (wI g n_kind 0 12 n_fkind), (wI g n_pay 0 12 n_fpay), (wI g n_ways 0 12 n_fways), (wI g n_held 0 12 n_fheld), (wI g n_targets 0 36 n_ftargets), (wI g n_weights 0 36 n_fweights), (wI g co_place 0 12 pcf), (wO1 eq eq_rows eq_right ew), (wJ g eq_right 1 8 fr), (wR g eq_rows 5 8 (fun i => if i < 8 then some (rr i) else none)), (wJ g (rr 0) 1 8 (ct 0)), (wJ g (rr 1) 1 8 (ct 1)), (wJ g (rr 2) 1 8 (ct 2)), (wJ g (rr 3) 1 8 (ct 3)), (wJ g (rr 4) 1 8 (ct 4)), (wJ g (rr 5) 1 8 (ct 5)), (wJ g (rr 6) 1 8 (ct 6)), (wJ g (rr 7) 1 8 (ct 7)), (wI g pl 0 12 plf), (wO10 vs vs_part vsw), (wJ g vs_part 1 12 vsp)])) (va_Qv (fun (_ : Unit) => True) (fun _ t => ∃ opc : Nat → Int32, ∃ oew : Int64, ∃ ofr : Nat → Int64, ∃ opl : Nat → Int32, ∃ ovw : Int64, ∃ ovp : Nat → Int64, ∃ oct : Nat → Nat → Int64, (∀ j : Nat, (-1) ≤ (opc j).toInt ∧ (opc j).toInt ≤ 7) ∧ (∀ j : Nat, 0 ≤ (opl j).toInt ∧ (opl j).toInt ≤ 2) ∧ va_P D vwCl [(wO6 sv n co sv_keep sv_scaled), (wO0 co n eq co_place), (wO2 n n_nodes n_kind n_pay n_name n_ways n_held n_targets n_weights), (wI g n_kind 0 12 n_fkind), (wI g n_pay 0 12 n_fpay), (wI g n_ways 0 12 n_fways), (wI g n_held 0 12 n_fheld), (wI g n_targets 0 36 n_ftargets), (wI g n_weights 0 36 n_fweights), (wI g co_place 0 12 opc), (wO1 eq eq_rows eq_right oew), (wJ g eq_right 1 8 ofr), (wR g eq_rows 5 8 (fun i => if i < 8 then some (rr i) else none)), (wJ g (rr 0) 1 8 (oct 0)), (wJ g (rr 1) 1 8 (oct 1)), (wJ g (rr 2) 1 8 (oct 2)), (wJ g (rr 3) 1 8 (oct 3)), (wJ g (rr 4) 1 8 (oct 4)), (wJ g (rr 5) 1 8 (oct 5)), (wJ g (rr 6) 1 8 (oct 6)), (wJ g (rr 7) 1 8 (oct 7)), (wI g pl 0 12 opl), (wO10 vs vs_part ovw), (wJ g vs_part 1 12 ovp)] t.heap ∧ va_D (va_A [(wO6 sv n co sv_keep sv_scaled), (wO0 co n eq co_place), (wO2 n n_nodes n_kind n_pay n_name n_ways n_held n_targets n_weights), (wI g n_kind 0 12 n_fkind), (wI g n_pay 0 12 n_fpay), (wI g n_ways 0 12 n_fways), (wI g n_held 0 12 n_fheld), (wI g n_targets 0 36 n_ftargets), (wI g n_weights 0 36 n_fweights), (wI g co_place 0 12 pcf), (wO1 eq eq_rows eq_right ew), (wJ g eq_right 1 8 fr), (wR g eq_rows 5 8 (fun i => if i < 8 then some (rr i) else none)), (wJ g (rr 0) 1 8 (ct 0)), (wJ g (rr 1) 1 8 (ct 1)), (wJ g (rr 2) 1 8 (ct 2)), (wJ g (rr 3) 1 8 (ct 3)), (wJ g (rr 4) 1 8 (ct 4)), (wJ g (rr 5) 1 8 (ct 5)), (wJ g (rr 6) 1 8 (ct 6)), (wJ g (rr 7) 1 8 (ct 7)), (wI g pl 0 12 plf), (wO10 vs vs_part vsw), (wJ g vs_part 1 12 vsp)] sz) [(wO6 sv n co sv_keep sv_scaled), (wO0 co n eq co_place), (wO2 n n_nodes n_kind n_pay n_name n_ways n_held n_targets n_weights), (wI g n_kind 0 12 n_fkind), (wI g n_pay 0 12 n_fpay), (wI g n_ways 0 12 n_fways), (wI g n_held 0 12 n_fheld), (wI g n_targets 0 36 n_ftargets), (wI g n_weights 0 36 n_fweights), (wI g co_place 0 12 opc), (wO1 eq eq_rows eq_right oew), (wJ g eq_right 1 8 ofr), (wR g eq_rows 5 8 (fun i => if i < 8 then some (rr i) else none)), (wJ g (rr 0) 1 8 (oct 0)), (wJ g (rr 1) 1 8 (oct 1)), (wJ g (rr 2) 1 8 (oct 2)), (wJ g (rr 3) 1 8 (oct 3)), (wJ g (rr 4) 1 8 (oct 4)), (wJ g (rr 5) 1 8 (oct 5)), (wJ g (rr 6) 1 8 (oct 6)), (wJ g (rr 7) 1 8 (oct 7)), (wI g pl 0 12 opl), (wO10 vs vs_part ovw), (wJ g vs_part 1 12 ovp)]) (va_A [(wO6 sv n co sv_keep sv_scaled), (wO0 co n eq co_place), (wO2 n n_nodes n_kind n_pay n_name n_ways n_held n_targets n_weights), (wI g n_kind 0 12 n_fkind), (wI g n_pay 0 12 n_fpay), (wI g n_ways 0 12 n_fways), (wI g n_held 0 12 n_fheld), (wI g n_targets 0 36 n_ftargets), (wI g n_weights 0 36 n_fweights), (wI g co_place 0 12 pcf), (wO1 eq eq_rows eq_right ew), (wJ g eq_right 1 8 fr), (wR g eq_rows 5 8 (fun i => if i < 8 then some (rr i) else none)), (wJ g (rr 0) 1 8 (ct 0)), (wJ g (rr 1) 1 8 (ct 1)), (wJ g (rr 2) 1 8 (ct 2)), (wJ g (rr 3) 1 8 (ct 3)), (wJ g (rr 4) 1 8 (ct 4)), (wJ g (rr 5) 1 8 (ct 5)), (wJ g (rr 6) 1 8 (ct 6)), (wJ g (rr 7) 1 8 (ct 7)), (wI g pl 0 12 plf), (wO10 vs vs_part vsw), (wJ g vs_part 1 12 vsp)] sz)) 0 0 (va_A [(wO6 sv n co sv_keep sv_scaled), (wO0 co n eq co_place), (wO2 n n_nodes n_kind n_pay n_name n_ways n_held n_targets n_weights), (wI g n_kind 0 12 n_fkind), (wI g n_pay 0 12 n_fpay), (wI g n_ways 0 12 n_fways), (wI g n_held 0 12 n_fheld), (wI g n_targets 0 36 n_ftargets), (wI g n_weights 0 36 n_fweights), (wI g co_place 0 12 pcf), (wO1 eq eq_rows eq_right ew), (wJ g eq_right 1 8 fr), (wR g eq_rows 5 8 (fun i => if i < 8 then some (rr i) else none)), (wJ g (rr 0) 1 8 (ct 0)), (wJ g (rr 1) 1 8 (ct 1)), (wJ g (rr 2) 1 8 (ct 2)), (wJ g (rr 3) 1 8 (ct 3)), (wJ g (rr 4) 1 8 (ct 4)), (wJ g (rr 5) 1 8 (ct 5)), (wJ g (rr 6) 1 8 (ct 6)), (wJ g (rr 7) 1 8 (ct 7)), (wI g pl 0 12 plf), (wO10 vs vs_part vsw), (wJ g vs_part 1 12 vsp)] sz) := by
  refine Met.ofW (cc := cX6_findWorth) (maxL := 7) (ret := none) (by decide) rfl ?_
  intro p e s m args below meth c s₁ B hml hv
  obtain ⟨ha, hsz, hP, hK, hD0⟩ := hv
  have hx := B.exec
  have hb := B.bytes
  have hr := B.returns
  have hts0 := atoms_spec (ws := (.code yX6_findWorth cX6_findWorth 7 none :: wsL_law)) B.pre
  have hts : ∀ w ∈ wsL_law, w.before args s = true := fun w h => hts0 w (List.mem_cons_of_mem _ h)
  have hown : s.vm.findClass RX6 = some m.cls := findClass_of_methodNamed B.named
  have hlocks := B.notSynchronized
  subst hsz
  have hD := hD0.self (sz := s.heap.size)
  generalize hAe : va_A [(wO6 sv n co sv_keep sv_scaled), (wO0 co n eq co_place), (wO2 n n_nodes n_kind n_pay n_name n_ways n_held n_targets n_weights), (wI g n_kind 0 12 n_fkind), (wI g n_pay 0 12 n_fpay), (wI g n_ways 0 12 n_fways), (wI g n_held 0 12 n_fheld), (wI g n_targets 0 36 n_ftargets), (wI g n_weights 0 36 n_fweights), (wI g co_place 0 12 pcf), (wO1 eq eq_rows eq_right ew), (wJ g eq_right 1 8 fr), (wR g eq_rows 5 8 (fun i => if i < 8 then some (rr i) else none)), (wJ g (rr 0) 1 8 (ct 0)), (wJ g (rr 1) 1 8 (ct 1)), (wJ g (rr 2) 1 8 (ct 2)), (wJ g (rr 3) 1 8 (ct 3)), (wJ g (rr 4) 1 8 (ct 4)), (wJ g (rr 5) 1 8 (ct 5)), (wJ g (rr 6) 1 8 (ct 6)), (wJ g (rr 7) 1 8 (ct 7)), (wI g pl 0 12 plf), (wO10 vs vs_part vsw), (wJ g vs_part 1 12 vsp)] s.heap.size = A at hD ⊢
  have hA : ∀ q : Nat, s.heap.size ≤ q → A q := fun q h => by rw [← hAe]; exact Or.inr h
  have hS : va_S A s.heap s.heap [] := va_S.rf
  have hP : va_P D vwCl [(wO6 sv n co sv_keep sv_scaled), (wO0 co n eq co_place), (wO2 n n_nodes n_kind n_pay n_name n_ways n_held n_targets n_weights), (wI g n_kind 0 12 n_fkind), (wI g n_pay 0 12 n_fpay), (wI g n_ways 0 12 n_fways), (wI g n_held 0 12 n_fheld), (wI g n_targets 0 36 n_ftargets), (wI g n_weights 0 36 n_fweights), (wI g co_place 0 12 pcf), (wO1 eq eq_rows eq_right ew), (wJ g eq_right 1 8 fr), (wR g eq_rows 5 8 (fun i => if i < 8 then some (rr i) else none)), (wJ g (rr 0) 1 8 (ct 0)), (wJ g (rr 1) 1 8 (ct 1)), (wJ g (rr 2) 1 8 (ct 2)), (wJ g (rr 3) 1 8 (ct 3)), (wJ g (rr 4) 1 8 (ct 4)), (wJ g (rr 5) 1 8 (ct 5)), (wJ g (rr 6) 1 8 (ct 6)), (wJ g (rr 7) 1 8 (ct 7)), (wI g pl 0 12 plf), (wO10 vs vs_part vsw), (wJ g vs_part 1 12 vsp)] s.heap := hP
  refine W.eq (g2 := entryFrame m ([.ref sv, .ref pl, .int p0, .int p1, .ref vs] : List Value).toArray 7) (by rw [ha]) ?_
  have hl := lv_entry ([.ref sv, .ref pl, .int p0, .int p1, .ref vs]) (n := 7) (Nat.le_of_ble_eq_true rfl)
  rw [lg_entry_eq]
  generalize (lg_sl ([.ref sv, .ref pl, .int p0, .int p1, .ref vs]) ++ List.replicate (7 - (lg_sl ([.ref sv, .ref pl, .int p0, .int p1, .ref vs])).length) Slot.unset).toArray = ls at hl ⊢
  have hl : lv_has ls 7 [(0, .ref sv), (1, .ref pl), (2, .int p0), (3, .int p1), (4, .ref vs)] := hl
  refine lv_iconst (v := 1) hx hb dX6_findWorth_0 (by decide) ?_
  refine lv_istore (lv' := [(5, .int 1), (0, .ref sv), (1, .ref pl), (2, .int p0), (3, .int p1), (4, .ref vs)]) hx hb dX6_findWorth_1 hl (by decide) rfl (fun ls hl => ?_)
  refine lv_iconst (v := 0) hx hb dX6_findWorth_3 (by decide) ?_
  refine lv_istore (lv' := [(6, .int 0), (5, .int 1), (0, .ref sv), (1, .ref pl), (2, .int p0), (3, .int p1), (4, .ref vs)]) hx hb dX6_findWorth_4 hl (by decide) rfl (fun ls hl => ?_)
  have lp_86120 : ∀ (n_86120 : Nat) (ct_86111 : Nat → Nat → Int64) (x_86112 : Int32) (x_86113 : Int32) (f_86114 : Nat → Int32) (x_86115 : Int64) (f_86116 : Nat → Int64) (f_86117 : Nat → Int32) (x_86118 : Int64) (f_86119 : Nat → Int64) (H : Heap) (locs : List Loc) (ls : Array Slot), (0 ≤ (x_86112 : Int32).toInt ∧ (x_86112 : Int32).toInt ≤ 2147483647) → (0 ≤ (x_86113 : Int32).toInt ∧ (x_86113 : Int32).toInt ≤ 1) → (∀ j : Nat, (-1) ≤ (f_86114 j).toInt ∧ (f_86114 j).toInt ≤ 7) → (∀ j : Nat, 0 ≤ (f_86117 j).toInt ∧ (f_86117 j).toInt ≤ 2) → (2147483647 - x_86112.toInt < (n_86120 : Int)) → va_P D vwCl [(wO6 sv n co sv_keep sv_scaled), (wO0 co n eq co_place), (wO2 n n_nodes n_kind n_pay n_name n_ways n_held n_targets n_weights), (wI g n_kind 0 12 n_fkind), (wI g n_pay 0 12 n_fpay), (wI g n_ways 0 12 n_fways), (wI g n_held 0 12 n_fheld), (wI g n_targets 0 36 n_ftargets), (wI g n_weights 0 36 n_fweights), (wI g co_place 0 12 f_86114), (wO1 eq eq_rows eq_right x_86115), (wJ g eq_right 1 8 f_86116), (wR g eq_rows 5 8 (fun i => if i < 8 then some (rr i) else none)), (wJ g (rr 0) 1 8 (ct_86111 0)), (wJ g (rr 1) 1 8 (ct_86111 1)), (wJ g (rr 2) 1 8 (ct_86111 2)), (wJ g (rr 3) 1 8 (ct_86111 3)), (wJ g (rr 4) 1 8 (ct_86111 4)), (wJ g (rr 5) 1 8 (ct_86111 5)), (wJ g (rr 6) 1 8 (ct_86111 6)), (wJ g (rr 7) 1 8 (ct_86111 7)), (wI g pl 0 12 f_86117), (wO10 vs vs_part x_86118), (wJ g vs_part 1 12 f_86119)] H → va_D A [(wO6 sv n co sv_keep sv_scaled), (wO0 co n eq co_place), (wO2 n n_nodes n_kind n_pay n_name n_ways n_held n_targets n_weights), (wI g n_kind 0 12 n_fkind), (wI g n_pay 0 12 n_fpay), (wI g n_ways 0 12 n_fways), (wI g n_held 0 12 n_fheld), (wI g n_targets 0 36 n_ftargets), (wI g n_weights 0 36 n_fweights), (wI g co_place 0 12 f_86114), (wO1 eq eq_rows eq_right x_86115), (wJ g eq_right 1 8 f_86116), (wR g eq_rows 5 8 (fun i => if i < 8 then some (rr i) else none)), (wJ g (rr 0) 1 8 (ct_86111 0)), (wJ g (rr 1) 1 8 (ct_86111 1)), (wJ g (rr 2) 1 8 (ct_86111 2)), (wJ g (rr 3) 1 8 (ct_86111 3)), (wJ g (rr 4) 1 8 (ct_86111 4)), (wJ g (rr 5) 1 8 (ct_86111 5)), (wJ g (rr 6) 1 8 (ct_86111 6)), (wJ g (rr 7) 1 8 (ct_86111 7)), (wI g pl 0 12 f_86117), (wO10 vs vs_part x_86118), (wJ g vs_part 1 12 f_86119)] → va_S A s.heap H locs → lv_has ls 7 [(6, .int x_86112), (5, .int x_86113), (0, .ref sv), (1, .ref pl), (2, .int p0), (3, .int p1), (4, .ref vs)] → W p l e (headSpec (.code yX6_findWorth cX6_findWorth 7 none :: wsL_law) ({ frames := 5, cells := 0, slots := 0, locals := 132 })).room s m args below meth c H locs 0 0 (MQ below (va_Qv (fun (_ : Unit) => True) (fun _ t => ∃ opc : Nat → Int32, ∃ oew : Int64, ∃ ofr : Nat → Int64, ∃ opl : Nat → Int32, ∃ ovw : Int64, ∃ ovp : Nat → Int64, ∃ oct : Nat → Nat → Int64, (∀ j : Nat, (-1) ≤ (opc j).toInt ∧ (opc j).toInt ≤ 7) ∧ (∀ j : Nat, 0 ≤ (opl j).toInt ∧ (opl j).toInt ≤ 2) ∧ va_P D vwCl [(wO6 sv n co sv_keep sv_scaled), (wO0 co n eq co_place), (wO2 n n_nodes n_kind n_pay n_name n_ways n_held n_targets n_weights), (wI g n_kind 0 12 n_fkind), (wI g n_pay 0 12 n_fpay), (wI g n_ways 0 12 n_fways), (wI g n_held 0 12 n_fheld), (wI g n_targets 0 36 n_ftargets), (wI g n_weights 0 36 n_fweights), (wI g co_place 0 12 opc), (wO1 eq eq_rows eq_right oew), (wJ g eq_right 1 8 ofr), (wR g eq_rows 5 8 (fun i => if i < 8 then some (rr i) else none)), (wJ g (rr 0) 1 8 (oct 0)), (wJ g (rr 1) 1 8 (oct 1)), (wJ g (rr 2) 1 8 (oct 2)), (wJ g (rr 3) 1 8 (oct 3)), (wJ g (rr 4) 1 8 (oct 4)), (wJ g (rr 5) 1 8 (oct 5)), (wJ g (rr 6) 1 8 (oct 6)), (wJ g (rr 7) 1 8 (oct 7)), (wI g pl 0 12 opl), (wO10 vs vs_part ovw), (wJ g vs_part 1 12 ovp)] t.heap ∧ va_D A [(wO6 sv n co sv_keep sv_scaled), (wO0 co n eq co_place), (wO2 n n_nodes n_kind n_pay n_name n_ways n_held n_targets n_weights), (wI g n_kind 0 12 n_fkind), (wI g n_pay 0 12 n_fpay), (wI g n_ways 0 12 n_fways), (wI g n_held 0 12 n_fheld), (wI g n_targets 0 36 n_ftargets), (wI g n_weights 0 36 n_fweights), (wI g co_place 0 12 opc), (wO1 eq eq_rows eq_right oew), (wJ g eq_right 1 8 ofr), (wR g eq_rows 5 8 (fun i => if i < 8 then some (rr i) else none)), (wJ g (rr 0) 1 8 (oct 0)), (wJ g (rr 1) 1 8 (oct 1)), (wJ g (rr 2) 1 8 (oct 2)), (wJ g (rr 3) 1 8 (oct 3)), (wJ g (rr 4) 1 8 (oct 4)), (wJ g (rr 5) 1 8 (oct 5)), (wJ g (rr 6) 1 8 (oct 6)), (wJ g (rr 7) 1 8 (oct 7)), (wI g pl 0 12 opl), (wO10 vs vs_part ovw), (wJ g vs_part 1 12 ovp)]) A) args s 0 0 A) (F0 m 6 ls []) := by
    intro n_86120
    induction n_86120 with
    | zero =>
      intro ct_86111 x_86112 x_86113 f_86114 x_86115 f_86116 f_86117 x_86118 f_86119 H locs ls h_x_86112 h_x_86113 h_f_86114 h_f_86117 hm_86120 hP hD hS hl
      exfalso; omega
    | succ n_86120 ih_86120 =>
      intro ct_86111 x_86112 x_86113 f_86114 x_86115 f_86116 f_86117 x_86118 f_86119 H locs ls h_x_86112 h_x_86113 h_f_86114 h_f_86117 hm_86120 hP hD hS hl
      refine lv_iload hx hb dX6_findWorth_6 (lv_at hl 1 rfl) ?_
      refine lv_if_eq (tgt := 52) hx hb dX6_findWorth_8 (by decide) (fun c_86121 => ?_) (fun c_86121 => ?_)
      · skip
        have c_86121_i : (x_86113 : Int32).toInt = (0 : Int32).toInt := congrArg Int32.toInt c_86121
        have h_86122 : 0 ≤ (x_86113 : Int32).toInt ∧ (x_86113 : Int32).toInt ≤ 0 := nr_eq_l h_x_86113 (⟨by decide, by decide⟩ : 0 ≤ (0 : Int32).toInt ∧ (0 : Int32).toInt ≤ 0) c_86121_i (by decide) (by decide)
        have hP9 := hP.sub (ws' := [(wO6 sv n co sv_keep sv_scaled), (wO0 co n eq co_place), (wO2 n n_nodes n_kind n_pay n_name n_ways n_held n_targets n_weights), (wI g n_kind 0 12 n_fkind), (wI g n_pay 0 12 n_fpay), (wI g n_ways 0 12 n_fways), (wI g n_held 0 12 n_fheld), (wI g n_targets 0 36 n_ftargets), (wI g n_weights 0 36 n_fweights), (wI g co_place 0 12 f_86114), (wO1 eq eq_rows eq_right x_86115), (wJ g eq_right 1 8 f_86116), (wR g eq_rows 5 8 (fun i => if i < 8 then some (rr i) else none)), (wJ g (rr 0) 1 8 (ct_86111 0)), (wJ g (rr 1) 1 8 (ct_86111 1)), (wJ g (rr 2) 1 8 (ct_86111 2)), (wJ g (rr 3) 1 8 (ct_86111 3)), (wJ g (rr 4) 1 8 (ct_86111 4)), (wJ g (rr 5) 1 8 (ct_86111 5)), (wJ g (rr 6) 1 8 (ct_86111 6)), (wJ g (rr 7) 1 8 (ct_86111 7)), (wI g pl 0 12 f_86117), (wO10 vs vs_part x_86118), (wJ g vs_part 1 12 f_86119)]) [0, 1, 2, 3, 4, 5, 6, 7, 8, 9, 10, 11, 12, 13, 14, 15, 16, 17, 18, 19, 20, 21, 22, 23] rfl
        have hD9 := hD.sub (ws' := [(wO6 sv n co sv_keep sv_scaled), (wO0 co n eq co_place), (wO2 n n_nodes n_kind n_pay n_name n_ways n_held n_targets n_weights), (wI g n_kind 0 12 n_fkind), (wI g n_pay 0 12 n_fpay), (wI g n_ways 0 12 n_fways), (wI g n_held 0 12 n_fheld), (wI g n_targets 0 36 n_ftargets), (wI g n_weights 0 36 n_fweights), (wI g co_place 0 12 f_86114), (wO1 eq eq_rows eq_right x_86115), (wJ g eq_right 1 8 f_86116), (wR g eq_rows 5 8 (fun i => if i < 8 then some (rr i) else none)), (wJ g (rr 0) 1 8 (ct_86111 0)), (wJ g (rr 1) 1 8 (ct_86111 1)), (wJ g (rr 2) 1 8 (ct_86111 2)), (wJ g (rr 3) 1 8 (ct_86111 3)), (wJ g (rr 4) 1 8 (ct_86111 4)), (wJ g (rr 5) 1 8 (ct_86111 5)), (wJ g (rr 6) 1 8 (ct_86111 6)), (wJ g (rr 7) 1 8 (ct_86111 7)), (wI g pl 0 12 f_86117), (wO10 vs vs_part x_86118), (wJ g vs_part 1 12 f_86119)]) [0, 1, 2, 3, 4, 5, 6, 7, 8, 9, 10, 11, 12, 13, 14, 15, 16, 17, 18, 19, 20, 21, 22, 23] (by decide) rfl
        exact W.vret hx hb hr (fun t ht hW => ⟨⟨(), rfl, trivial, f_86114, x_86115, f_86116, f_86117, x_86118, f_86119, ct_86111, (tr_wa h_f_86114 (by decide) (by decide)), (tr_wa h_f_86117 (by decide) (by decide)), by rw [ht]; exact hP9, hD9⟩, hS.F ht⟩) hS.2.2 dX6_findWorth_52
      · skip
        have c_86121_i : ¬ (x_86113 : Int32).toInt = (0 : Int32).toInt := (fun q => c_86121 (Int32.toInt_inj.mp q))
        have h_86123 : 1 ≤ (x_86113 : Int32).toInt ∧ (x_86113 : Int32).toInt ≤ 1 := nr_ne_l h_x_86113 (⟨by decide, by decide⟩ : 0 ≤ (0 : Int32).toInt ∧ (0 : Int32).toInt ≤ 0) c_86121_i (by decide) (by decide)
        refine lv_iload hx hb dX6_findWorth_11 (lv_at hl 0 rfl) ?_
        refine lv_sipush (v := 6561) hx hb dX6_findWorth_13 (by decide) ?_
        refine lv_icmp_ge (tgt := 52) hx hb dX6_findWorth_16 (by decide) (fun c_86124 => ?_) (fun c_86124 => ?_)
        · skip
          have c_86124_i := Int32.le_iff_toInt_le.mp c_86124
          have h_86125 : 6561 ≤ (x_86112 : Int32).toInt ∧ (x_86112 : Int32).toInt ≤ 2147483647 := nr_le_r (⟨by decide, by decide⟩ : 6561 ≤ (6561 : Int32).toInt ∧ (6561 : Int32).toInt ≤ 6561) h_x_86112 c_86124_i (by decide) (by decide)
          have hP9 := hP.sub (ws' := [(wO6 sv n co sv_keep sv_scaled), (wO0 co n eq co_place), (wO2 n n_nodes n_kind n_pay n_name n_ways n_held n_targets n_weights), (wI g n_kind 0 12 n_fkind), (wI g n_pay 0 12 n_fpay), (wI g n_ways 0 12 n_fways), (wI g n_held 0 12 n_fheld), (wI g n_targets 0 36 n_ftargets), (wI g n_weights 0 36 n_fweights), (wI g co_place 0 12 f_86114), (wO1 eq eq_rows eq_right x_86115), (wJ g eq_right 1 8 f_86116), (wR g eq_rows 5 8 (fun i => if i < 8 then some (rr i) else none)), (wJ g (rr 0) 1 8 (ct_86111 0)), (wJ g (rr 1) 1 8 (ct_86111 1)), (wJ g (rr 2) 1 8 (ct_86111 2)), (wJ g (rr 3) 1 8 (ct_86111 3)), (wJ g (rr 4) 1 8 (ct_86111 4)), (wJ g (rr 5) 1 8 (ct_86111 5)), (wJ g (rr 6) 1 8 (ct_86111 6)), (wJ g (rr 7) 1 8 (ct_86111 7)), (wI g pl 0 12 f_86117), (wO10 vs vs_part x_86118), (wJ g vs_part 1 12 f_86119)]) [0, 1, 2, 3, 4, 5, 6, 7, 8, 9, 10, 11, 12, 13, 14, 15, 16, 17, 18, 19, 20, 21, 22, 23] rfl
          have hD9 := hD.sub (ws' := [(wO6 sv n co sv_keep sv_scaled), (wO0 co n eq co_place), (wO2 n n_nodes n_kind n_pay n_name n_ways n_held n_targets n_weights), (wI g n_kind 0 12 n_fkind), (wI g n_pay 0 12 n_fpay), (wI g n_ways 0 12 n_fways), (wI g n_held 0 12 n_fheld), (wI g n_targets 0 36 n_ftargets), (wI g n_weights 0 36 n_fweights), (wI g co_place 0 12 f_86114), (wO1 eq eq_rows eq_right x_86115), (wJ g eq_right 1 8 f_86116), (wR g eq_rows 5 8 (fun i => if i < 8 then some (rr i) else none)), (wJ g (rr 0) 1 8 (ct_86111 0)), (wJ g (rr 1) 1 8 (ct_86111 1)), (wJ g (rr 2) 1 8 (ct_86111 2)), (wJ g (rr 3) 1 8 (ct_86111 3)), (wJ g (rr 4) 1 8 (ct_86111 4)), (wJ g (rr 5) 1 8 (ct_86111 5)), (wJ g (rr 6) 1 8 (ct_86111 6)), (wJ g (rr 7) 1 8 (ct_86111 7)), (wI g pl 0 12 f_86117), (wO10 vs vs_part x_86118), (wJ g vs_part 1 12 f_86119)]) [0, 1, 2, 3, 4, 5, 6, 7, 8, 9, 10, 11, 12, 13, 14, 15, 16, 17, 18, 19, 20, 21, 22, 23] (by decide) rfl
          exact W.vret hx hb hr (fun t ht hW => ⟨⟨(), rfl, trivial, f_86114, x_86115, f_86116, f_86117, x_86118, f_86119, ct_86111, (tr_wa h_f_86114 (by decide) (by decide)), (tr_wa h_f_86117 (by decide) (by decide)), by rw [ht]; exact hP9, hD9⟩, hS.F ht⟩) hS.2.2 dX6_findWorth_52
        · skip
          have c_86124_i := Int32.lt_iff_toInt_lt.mp (Int32.not_le.mp c_86124)
          have h_86126 : 0 ≤ (x_86112 : Int32).toInt ∧ (x_86112 : Int32).toInt ≤ 6560 := nr_lt_l h_x_86112 (⟨by decide, by decide⟩ : 6561 ≤ (6561 : Int32).toInt ∧ (6561 : Int32).toInt ≤ 6561) c_86124_i (by decide) (by decide)
          refine lv_aload_n hx hb dX6_findWorth_19 rfl (lv_at hl 2 rfl) ?_
          refine lv_aload_n hx hb dX6_findWorth_20 rfl (lv_at hl 3 rfl) ?_
          refine lv_iload_n hx hb dX6_findWorth_21 rfl (lv_at hl 4 rfl) ?_
          refine lv_iload_n hx hb dX6_findWorth_22 rfl (lv_at hl 5 rfl) ?_
          refine lv_aload hx hb dX6_findWorth_23 (lv_at hl 6 rfl) ?_
          have hPc := hP.sub (ws' := [(wO6 sv n co sv_keep sv_scaled), (wO0 co n eq co_place), (wO2 n n_nodes n_kind n_pay n_name n_ways n_held n_targets n_weights), (wI g n_kind 0 12 n_fkind), (wI g n_pay 0 12 n_fpay), (wI g n_ways 0 12 n_fways), (wI g n_held 0 12 n_fheld), (wI g n_targets 0 36 n_ftargets), (wI g n_weights 0 36 n_fweights), (wI g co_place 0 12 f_86114), (wO1 eq eq_rows eq_right x_86115), (wJ g eq_right 1 8 f_86116), (wR g eq_rows 5 8 (fun i => if i < 8 then some (rr i) else none)), (wJ g (rr 0) 1 8 (ct_86111 0)), (wJ g (rr 1) 1 8 (ct_86111 1)), (wJ g (rr 2) 1 8 (ct_86111 2)), (wJ g (rr 3) 1 8 (ct_86111 3)), (wJ g (rr 4) 1 8 (ct_86111 4)), (wJ g (rr 5) 1 8 (ct_86111 5)), (wJ g (rr 6) 1 8 (ct_86111 6)), (wJ g (rr 7) 1 8 (ct_86111 7)), (wI g pl 0 12 f_86117), (wO10 vs vs_part x_86118), (wJ g vs_part 1 12 f_86119)]) [0, 1, 2, 3, 4, 5, 6, 7, 8, 9, 10, 11, 12, 13, 14, 15, 16, 17, 18, 19, 20, 21, 22, 23] rfl
          have hDc := hD.sub (ws' := [(wO6 sv n co sv_keep sv_scaled), (wO0 co n eq co_place), (wO2 n n_nodes n_kind n_pay n_name n_ways n_held n_targets n_weights), (wI g n_kind 0 12 n_fkind), (wI g n_pay 0 12 n_fpay), (wI g n_ways 0 12 n_fways), (wI g n_held 0 12 n_fheld), (wI g n_targets 0 36 n_ftargets), (wI g n_weights 0 36 n_fweights), (wI g co_place 0 12 f_86114), (wO1 eq eq_rows eq_right x_86115), (wJ g eq_right 1 8 f_86116), (wR g eq_rows 5 8 (fun i => if i < 8 then some (rr i) else none)), (wJ g (rr 0) 1 8 (ct_86111 0)), (wJ g (rr 1) 1 8 (ct_86111 1)), (wJ g (rr 2) 1 8 (ct_86111 2)), (wJ g (rr 3) 1 8 (ct_86111 3)), (wJ g (rr 4) 1 8 (ct_86111 4)), (wJ g (rr 5) 1 8 (ct_86111 5)), (wJ g (rr 6) 1 8 (ct_86111 6)), (wJ g (rr 7) 1 8 (ct_86111 7)), (wI g pl 0 12 f_86117), (wO10 vs vs_part x_86118), (wJ g vs_part 1 12 f_86119)]) [0, 1, 2, 3, 4, 5, 6, 7, 8, 9, 10, 11, 12, 13, 14, 15, 16, 17, 18, 19, 20, 21, 22, 23] (by decide) rfl
          have hFc := va_free (wc := [(wO6 sv n co sv_keep sv_scaled), (wO0 co n eq co_place), (wO2 n n_nodes n_kind n_pay n_name n_ways n_held n_targets n_weights), (wI g n_kind 0 12 n_fkind), (wI g n_pay 0 12 n_fpay), (wI g n_ways 0 12 n_fways), (wI g n_held 0 12 n_fheld), (wI g n_targets 0 36 n_ftargets), (wI g n_weights 0 36 n_fweights), (wI g co_place 0 12 f_86114), (wO1 eq eq_rows eq_right x_86115), (wJ g eq_right 1 8 f_86116), (wR g eq_rows 5 8 (fun i => if i < 8 then some (rr i) else none)), (wJ g (rr 0) 1 8 (ct_86111 0)), (wJ g (rr 1) 1 8 (ct_86111 1)), (wJ g (rr 2) 1 8 (ct_86111 2)), (wJ g (rr 3) 1 8 (ct_86111 3)), (wJ g (rr 4) 1 8 (ct_86111 4)), (wJ g (rr 5) 1 8 (ct_86111 5)), (wJ g (rr 6) 1 8 (ct_86111 6)), (wJ g (rr 7) 1 8 (ct_86111 7)), (wI g pl 0 12 f_86117), (wO10 vs vs_part x_86118), (wJ g vs_part 1 12 f_86119)]) hD hS hA [0, 1, 2, 3, 4, 5, 6, 7, 8, 9, 10, 11, 12, 13, 14, 15, 16, 17, 18, 19, 20, 21, 22, 23] rfl
          refine va_callv (va_runV (As := [.ref pl, .int p0, .int p1, .ref vs]) (rest := []) ⟨hx, hb, hml, hown, hts⟩ (c_X6_findLeft l D g H.size sv pl p0 p1 vs n co sv_keep sv_scaled eq co_place n_nodes n_kind n_pay n_name n_ways n_held n_targets n_weights n_fkind n_fpay n_fways n_fheld n_ftargets n_fweights f_86114 eq_rows eq_right x_86115 f_86116 rr ct_86111 f_86117 vs_part x_86118 f_86119 (tr_w h_n_nodes (by decide) (by decide)) (tr_wa h_n_fkind (by decide) (by decide)) (tr_wa h_n_fways (by decide) (by decide)) (tr_wa h_n_fheld (by decide) (by decide)) (tr_wa h_n_ftargets (by decide) (by decide)) (tr_wa h_f_86114 (by decide) (by decide)) (tr_wa h_f_86117 (by decide) (by decide))) (cwV 4 hts (tz_gV qw_579 qw_580 qw_581 qw_558 qw_582) rfl rfl rfl (by decide +kernel) ⟨Nat.le_of_ble_eq_true rfl, Nat.le_of_ble_eq_true rfl⟩) ⟨tz_blQ, va_recv hK hPc (ci := 6) (q0 := 0) rfl rfl, tz_preQ hPc hK hDc⟩ rfl rfl hl.1 rfl (lv_room (Nat.le_of_ble_eq_true rfl)) dX6_findWorth_25 ⟨Nat.le_of_ble_eq_true rfl, Nat.le_of_ble_eq_true rfl⟩) hS (fun q _ h => hFc q h) hFc (fun u t H1 locs ht hvm hw hB hz1 hk1 hS => ?_)
          obtain ⟨opc_86128, oew_86129, ofr_86130, opl_86131, ovw_86132, ovp_86133, oct_86134, hf_86135, hf_86136, hP1, hD1⟩ := hB
          rw [ht] at hP1
          obtain ⟨hP, hD⟩ := va_join (wr := []) (w1 := [(wO6 sv n co sv_keep sv_scaled), (wO0 co n eq co_place), (wO2 n n_nodes n_kind n_pay n_name n_ways n_held n_targets n_weights), (wI g n_kind 0 12 n_fkind), (wI g n_pay 0 12 n_fpay), (wI g n_ways 0 12 n_fways), (wI g n_held 0 12 n_fheld), (wI g n_targets 0 36 n_ftargets), (wI g n_weights 0 36 n_fweights), (wI g co_place 0 12 opc_86128), (wO1 eq eq_rows eq_right oew_86129), (wJ g eq_right 1 8 ofr_86130), (wR g eq_rows 5 8 (fun i => if i < 8 then some (rr i) else none)), (wJ g (rr 0) 1 8 (oct_86134 0)), (wJ g (rr 1) 1 8 (oct_86134 1)), (wJ g (rr 2) 1 8 (oct_86134 2)), (wJ g (rr 3) 1 8 (oct_86134 3)), (wJ g (rr 4) 1 8 (oct_86134 4)), (wJ g (rr 5) 1 8 (oct_86134 5)), (wJ g (rr 6) 1 8 (oct_86134 6)), (wJ g (rr 7) 1 8 (oct_86134 7)), (wI g pl 0 12 opl_86131), (wO10 vs vs_part ovw_86132), (wJ g vs_part 1 12 ovp_86133)]) hP hD [0, 1, 2, 3, 4, 5, 6, 7, 8, 9, 10, 11, 12, 13, 14, 15, 16, 17, 18, 19, 20, 21, 22, 23] [] rfl rfl (by decide) (by decide) hk1 hFc hP1 hD1
          generalize H1 = H at hP hS ⊢
          have hP : va_P D vwCl [(wO6 sv n co sv_keep sv_scaled), (wO0 co n eq co_place), (wO2 n n_nodes n_kind n_pay n_name n_ways n_held n_targets n_weights), (wI g n_kind 0 12 n_fkind), (wI g n_pay 0 12 n_fpay), (wI g n_ways 0 12 n_fways), (wI g n_held 0 12 n_fheld), (wI g n_targets 0 36 n_ftargets), (wI g n_weights 0 36 n_fweights), (wI g co_place 0 12 opc_86128), (wO1 eq eq_rows eq_right oew_86129), (wJ g eq_right 1 8 ofr_86130), (wR g eq_rows 5 8 (fun i => if i < 8 then some (rr i) else none)), (wJ g (rr 0) 1 8 (oct_86134 0)), (wJ g (rr 1) 1 8 (oct_86134 1)), (wJ g (rr 2) 1 8 (oct_86134 2)), (wJ g (rr 3) 1 8 (oct_86134 3)), (wJ g (rr 4) 1 8 (oct_86134 4)), (wJ g (rr 5) 1 8 (oct_86134 5)), (wJ g (rr 6) 1 8 (oct_86134 6)), (wJ g (rr 7) 1 8 (oct_86134 7)), (wI g pl 0 12 opl_86131), (wO10 vs vs_part ovw_86132), (wJ g vs_part 1 12 ovp_86133)] H := hP
          have hD : va_D A [(wO6 sv n co sv_keep sv_scaled), (wO0 co n eq co_place), (wO2 n n_nodes n_kind n_pay n_name n_ways n_held n_targets n_weights), (wI g n_kind 0 12 n_fkind), (wI g n_pay 0 12 n_fpay), (wI g n_ways 0 12 n_fways), (wI g n_held 0 12 n_fheld), (wI g n_targets 0 36 n_ftargets), (wI g n_weights 0 36 n_fweights), (wI g co_place 0 12 opc_86128), (wO1 eq eq_rows eq_right oew_86129), (wJ g eq_right 1 8 ofr_86130), (wR g eq_rows 5 8 (fun i => if i < 8 then some (rr i) else none)), (wJ g (rr 0) 1 8 (oct_86134 0)), (wJ g (rr 1) 1 8 (oct_86134 1)), (wJ g (rr 2) 1 8 (oct_86134 2)), (wJ g (rr 3) 1 8 (oct_86134 3)), (wJ g (rr 4) 1 8 (oct_86134 4)), (wJ g (rr 5) 1 8 (oct_86134 5)), (wJ g (rr 6) 1 8 (oct_86134 6)), (wJ g (rr 7) 1 8 (oct_86134 7)), (wI g pl 0 12 opl_86131), (wO10 vs vs_part ovw_86132), (wJ g vs_part 1 12 ovp_86133)] := hD
          refine lv_aload_n hx hb dX6_findWorth_28 rfl (lv_at hl 2 rfl) ?_
          refine lv_iconst (v := 1) hx hb dX6_findWorth_29 (by decide) ?_
          refine lv_aload_n hx hb dX6_findWorth_30 rfl (lv_at hl 3 rfl) ?_
          refine lv_aload hx hb dX6_findWorth_31 (lv_at hl 6 rfl) ?_
          have hPc := hP.sub (ws' := [(wO6 sv n co sv_keep sv_scaled), (wO2 n n_nodes n_kind n_pay n_name n_ways n_held n_targets n_weights), (wI g n_kind 0 12 n_fkind), (wI g n_ways 0 12 n_fways), (wI g n_held 0 12 n_fheld), (wI g n_targets 0 36 n_ftargets), (wO10 vs vs_part ovw_86132), (wJ g vs_part 1 12 ovp_86133), (wI g pl 0 12 opl_86131)]) [0, 2, 3, 5, 6, 7, 22, 23, 21] rfl
          have hDc := hD.sub (ws' := [(wO6 sv n co sv_keep sv_scaled), (wO2 n n_nodes n_kind n_pay n_name n_ways n_held n_targets n_weights), (wI g n_kind 0 12 n_fkind), (wI g n_ways 0 12 n_fways), (wI g n_held 0 12 n_fheld), (wI g n_targets 0 36 n_ftargets), (wO10 vs vs_part ovw_86132), (wJ g vs_part 1 12 ovp_86133), (wI g pl 0 12 opl_86131)]) [0, 2, 3, 5, 6, 7, 22, 23, 21] (by decide) rfl
          have hFc := va_free (wc := [(wO6 sv n co sv_keep sv_scaled), (wO2 n n_nodes n_kind n_pay n_name n_ways n_held n_targets n_weights), (wI g n_kind 0 12 n_fkind), (wI g n_ways 0 12 n_fways), (wI g n_held 0 12 n_fheld), (wI g n_targets 0 36 n_ftargets), (wO10 vs vs_part ovw_86132), (wJ g vs_part 1 12 ovp_86133), (wI g pl 0 12 opl_86131)]) hD hS hA [0, 2, 3, 5, 6, 7, 22, 23, 21] rfl
          refine va_calli (va_runV (As := [.int 1, .ref pl, .ref vs]) (rest := []) ⟨hx, hb, hml, hown, hts⟩ (c_X6_turn l D g H.size sv 1 pl vs n co sv_keep sv_scaled n_nodes n_kind n_pay n_name n_ways n_held n_targets n_weights n_fkind n_fways n_fheld n_ftargets vs_part ovw_86132 ovp_86133 opl_86131 (tr_w h_n_nodes (by decide) (by decide)) (tr_wa h_n_fkind (by decide) (by decide)) (tr_wa h_n_fways (by decide) (by decide)) (tr_wa h_n_fheld (by decide) (by decide)) (tr_wa h_n_ftargets (by decide) (by decide)) (tr_wa hf_86136 (by decide) (by decide))) (cwV 3 hts (tz_gV qw_583 qw_584 qw_585 qw_558 qw_586) rfl rfl rfl (by decide +kernel) ⟨Nat.le_of_ble_eq_true rfl, Nat.le_of_ble_eq_true rfl⟩) ⟨tz_blQ, va_recv hK hPc (ci := 6) (q0 := 0) rfl rfl, tz_preQ hPc hK hDc⟩ rfl rfl hl.1 rfl (lv_room (Nat.le_of_ble_eq_true rfl)) dX6_findWorth_33 ⟨Nat.le_of_ble_eq_true rfl, Nat.le_of_ble_eq_true rfl⟩) hS (fun q _ h => hFc q h) hFc (fun r_86137 u t H1 locs ht hvm hw hB hz1 hk1 hS => ?_)
          obtain ⟨opl_86138, hf_86139, hP1, hD1⟩ := hB
          rw [ht] at hP1
          obtain ⟨hP, hD⟩ := va_join (wr := [(wO0 co n eq co_place), (wI g n_pay 0 12 n_fpay), (wI g n_weights 0 36 n_fweights), (wI g co_place 0 12 opc_86128), (wO1 eq eq_rows eq_right oew_86129), (wJ g eq_right 1 8 ofr_86130), (wR g eq_rows 5 8 (fun i => if i < 8 then some (rr i) else none)), (wJ g (rr 0) 1 8 (oct_86134 0)), (wJ g (rr 1) 1 8 (oct_86134 1)), (wJ g (rr 2) 1 8 (oct_86134 2)), (wJ g (rr 3) 1 8 (oct_86134 3)), (wJ g (rr 4) 1 8 (oct_86134 4)), (wJ g (rr 5) 1 8 (oct_86134 5)), (wJ g (rr 6) 1 8 (oct_86134 6)), (wJ g (rr 7) 1 8 (oct_86134 7))]) (w1 := [(wO6 sv n co sv_keep sv_scaled), (wO2 n n_nodes n_kind n_pay n_name n_ways n_held n_targets n_weights), (wI g n_kind 0 12 n_fkind), (wI g n_ways 0 12 n_fways), (wI g n_held 0 12 n_fheld), (wI g n_targets 0 36 n_ftargets), (wO10 vs vs_part ovw_86132), (wJ g vs_part 1 12 ovp_86133), (wI g pl 0 12 opl_86138)]) hP hD [0, 2, 3, 5, 6, 7, 22, 23, 21] [1, 4, 8, 9, 10, 11, 12, 13, 14, 15, 16, 17, 18, 19, 20] rfl rfl (by decide) (by decide) hk1 hFc hP1 hD1
          generalize H1 = H at hP hS ⊢
          have hP : va_P D vwCl [(wO0 co n eq co_place), (wI g n_pay 0 12 n_fpay), (wI g n_weights 0 36 n_fweights), (wI g co_place 0 12 opc_86128), (wO1 eq eq_rows eq_right oew_86129), (wJ g eq_right 1 8 ofr_86130), (wR g eq_rows 5 8 (fun i => if i < 8 then some (rr i) else none)), (wJ g (rr 0) 1 8 (oct_86134 0)), (wJ g (rr 1) 1 8 (oct_86134 1)), (wJ g (rr 2) 1 8 (oct_86134 2)), (wJ g (rr 3) 1 8 (oct_86134 3)), (wJ g (rr 4) 1 8 (oct_86134 4)), (wJ g (rr 5) 1 8 (oct_86134 5)), (wJ g (rr 6) 1 8 (oct_86134 6)), (wJ g (rr 7) 1 8 (oct_86134 7)), (wO6 sv n co sv_keep sv_scaled), (wO2 n n_nodes n_kind n_pay n_name n_ways n_held n_targets n_weights), (wI g n_kind 0 12 n_fkind), (wI g n_ways 0 12 n_fways), (wI g n_held 0 12 n_fheld), (wI g n_targets 0 36 n_ftargets), (wO10 vs vs_part ovw_86132), (wJ g vs_part 1 12 ovp_86133), (wI g pl 0 12 opl_86138)] H := hP
          have hD : va_D A [(wO0 co n eq co_place), (wI g n_pay 0 12 n_fpay), (wI g n_weights 0 36 n_fweights), (wI g co_place 0 12 opc_86128), (wO1 eq eq_rows eq_right oew_86129), (wJ g eq_right 1 8 ofr_86130), (wR g eq_rows 5 8 (fun i => if i < 8 then some (rr i) else none)), (wJ g (rr 0) 1 8 (oct_86134 0)), (wJ g (rr 1) 1 8 (oct_86134 1)), (wJ g (rr 2) 1 8 (oct_86134 2)), (wJ g (rr 3) 1 8 (oct_86134 3)), (wJ g (rr 4) 1 8 (oct_86134 4)), (wJ g (rr 5) 1 8 (oct_86134 5)), (wJ g (rr 6) 1 8 (oct_86134 6)), (wJ g (rr 7) 1 8 (oct_86134 7)), (wO6 sv n co sv_keep sv_scaled), (wO2 n n_nodes n_kind n_pay n_name n_ways n_held n_targets n_weights), (wI g n_kind 0 12 n_fkind), (wI g n_ways 0 12 n_fways), (wI g n_held 0 12 n_fheld), (wI g n_targets 0 36 n_ftargets), (wO10 vs vs_part ovw_86132), (wJ g vs_part 1 12 ovp_86133), (wI g pl 0 12 opl_86138)] := hD
          refine lv_if_le (tgt := 43) hx hb dX6_findWorth_36 (by decide) (fun c_86140 => ?_) (fun c_86140 => ?_)
          · skip
            have c_86140_i := Int32.le_iff_toInt_le.mp c_86140
            have h_86141 : (-2147483648) ≤ (r_86137 : Int32).toInt ∧ (r_86137 : Int32).toInt ≤ 0 := nr_le_l (tr_any r_86137) (⟨by decide, by decide⟩ : 0 ≤ (0 : Int32).toInt ∧ (0 : Int32).toInt ≤ 0) c_86140_i (by decide) (by decide)
            refine lv_iconst (v := 0) hx hb dX6_findWorth_43 (by decide) ?_
            refine lv_istore (lv' := [(5, .int 0), (6, .int x_86112), (0, .ref sv), (1, .ref pl), (2, .int p0), (3, .int p1), (4, .ref vs)]) hx hb dX6_findWorth_44 hl (by decide) rfl (fun ls hl => ?_)
            obtain ⟨v_86143, v_86143_e⟩ : ∃ y : Int32, y = x_86112 + Int32.ofInt 1 := ⟨_, rfl⟩
            have h_v_86143 : 1 ≤ (v_86143 : Int32).toInt ∧ (v_86143 : Int32).toInt ≤ 6561 := by rw [v_86143_e]; exact tr_add h_86126 (⟨by decide, by decide⟩ : 1 ≤ (Int32.ofInt 1 : Int32).toInt ∧ (Int32.ofInt 1 : Int32).toInt ≤ 1) (by decide) (by decide) (by decide) (by decide)
            have q_v_86143 : v_86143.toInt = x_86112.toInt + 1 := by rw [v_86143_e]; exact tr_addE h_86126 (⟨by decide, by decide⟩ : 1 ≤ (Int32.ofInt 1 : Int32).toInt ∧ (Int32.ofInt 1 : Int32).toInt ≤ 1) (by decide) (by decide)
            refine lv_iinc (v := v_86143) (lv' := [(6, .int v_86143), (5, .int 0), (0, .ref sv), (1, .ref pl), (2, .int p0), (3, .int p1), (4, .ref vs)]) hx hb dX6_findWorth_46 hl (k := 1) rfl v_86143_e.symm (by decide) rfl (fun ls hl => ?_)
            refine lv_goto (tgt := 6) hx hb dX6_findWorth_49 (by decide) ?_
            exact ih_86120 oct_86134 v_86143 0 opc_86128 oew_86129 ofr_86130 opl_86138 ovw_86132 ovp_86133 H _ ls (tr_w h_v_86143 (by decide) (by decide)) (⟨by decide, by decide⟩ : 0 ≤ (0 : Int32).toInt ∧ (0 : Int32).toInt ≤ 1) (tr_wa hf_86135 (by decide) (by decide)) (tr_wa hf_86139 (by decide) (by decide)) (by (first | (clear h_x_86113 h_f_86114 h_f_86117 c_86121_i h_86123 c_86140_i h_86141; omega) | omega)) (hP.sub [15, 0, 16, 17, 1, 18, 19, 20, 2, 3, 4, 5, 6, 7, 8, 9, 10, 11, 12, 13, 14, 23, 21, 22] rfl) (hD.sub [15, 0, 16, 17, 1, 18, 19, 20, 2, 3, 4, 5, 6, 7, 8, 9, 10, 11, 12, 13, 14, 23, 21, 22] (by decide) rfl) hS (lv_sub hl [0, 1, 2, 3, 4, 5, 6] rfl)
          · skip
            have c_86140_i := Int32.lt_iff_toInt_lt.mp (Int32.not_le.mp c_86140)
            have h_86142 : 1 ≤ (r_86137 : Int32).toInt ∧ (r_86137 : Int32).toInt ≤ 2147483647 := nr_lt_r (⟨by decide, by decide⟩ : 0 ≤ (0 : Int32).toInt ∧ (0 : Int32).toInt ≤ 0) (tr_any r_86137) c_86140_i (by decide) (by decide)
            refine lv_iconst (v := 1) hx hb dX6_findWorth_39 (by decide) ?_
            refine lv_goto (tgt := 44) hx hb dX6_findWorth_40 (by decide) ?_
            refine lv_istore (lv' := [(5, .int 1), (6, .int x_86112), (0, .ref sv), (1, .ref pl), (2, .int p0), (3, .int p1), (4, .ref vs)]) hx hb dX6_findWorth_44 hl (by decide) rfl (fun ls hl => ?_)
            obtain ⟨v_86144, v_86144_e⟩ : ∃ y : Int32, y = x_86112 + Int32.ofInt 1 := ⟨_, rfl⟩
            have h_v_86144 : 1 ≤ (v_86144 : Int32).toInt ∧ (v_86144 : Int32).toInt ≤ 6561 := by rw [v_86144_e]; exact tr_add h_86126 (⟨by decide, by decide⟩ : 1 ≤ (Int32.ofInt 1 : Int32).toInt ∧ (Int32.ofInt 1 : Int32).toInt ≤ 1) (by decide) (by decide) (by decide) (by decide)
            have q_v_86144 : v_86144.toInt = x_86112.toInt + 1 := by rw [v_86144_e]; exact tr_addE h_86126 (⟨by decide, by decide⟩ : 1 ≤ (Int32.ofInt 1 : Int32).toInt ∧ (Int32.ofInt 1 : Int32).toInt ≤ 1) (by decide) (by decide)
            refine lv_iinc (v := v_86144) (lv' := [(6, .int v_86144), (5, .int 1), (0, .ref sv), (1, .ref pl), (2, .int p0), (3, .int p1), (4, .ref vs)]) hx hb dX6_findWorth_46 hl (k := 1) rfl v_86144_e.symm (by decide) rfl (fun ls hl => ?_)
            refine lv_goto (tgt := 6) hx hb dX6_findWorth_49 (by decide) ?_
            exact ih_86120 oct_86134 v_86144 1 opc_86128 oew_86129 ofr_86130 opl_86138 ovw_86132 ovp_86133 H _ ls (tr_w h_v_86144 (by decide) (by decide)) (⟨by decide, by decide⟩ : 0 ≤ (1 : Int32).toInt ∧ (1 : Int32).toInt ≤ 1) (tr_wa hf_86135 (by decide) (by decide)) (tr_wa hf_86139 (by decide) (by decide)) (by (first | (clear h_x_86113 h_f_86114 h_f_86117 c_86121_i h_86123 c_86140_i h_86142; omega) | omega)) (hP.sub [15, 0, 16, 17, 1, 18, 19, 20, 2, 3, 4, 5, 6, 7, 8, 9, 10, 11, 12, 13, 14, 23, 21, 22] rfl) (hD.sub [15, 0, 16, 17, 1, 18, 19, 20, 2, 3, 4, 5, 6, 7, 8, 9, 10, 11, 12, 13, 14, 23, 21, 22] (by decide) rfl) hS (lv_sub hl [0, 1, 2, 3, 4, 5, 6] rfl)
  exact lp_86120 2147483648 ct 0 1 pcf ew fr plf vsw vsp s.heap _ ls (⟨by decide, by decide⟩ : 0 ≤ (0 : Int32).toInt ∧ (0 : Int32).toInt ≤ 2147483647) (⟨by decide, by decide⟩ : 0 ≤ (1 : Int32).toInt ∧ (1 : Int32).toInt ≤ 1) (tr_wa h_pcf (by decide) (by decide)) (tr_wa h_plf (by decide) (by decide)) (by decide) (hP.sub [0, 1, 2, 3, 4, 5, 6, 7, 8, 9, 10, 11, 12, 13, 14, 15, 16, 17, 18, 19, 20, 21, 22, 23] rfl) (hD.sub [0, 1, 2, 3, 4, 5, 6, 7, 8, 9, 10, 11, 12, 13, 14, 15, 16, 17, 18, 19, 20, 21, 22, 23] (by decide) rfl) hS (lv_sub hl [0, 1, 2, 3, 4, 5, 6] rfl)
set_option maxHeartbeats 4000000 in
set_option maxRecDepth 100000 in
theorem c_X6_lowest (l : Launch) (D : va_G) (g : Nat → ClassId) (p0 : Int32) : Met l yX6_lowest (.code yX6_lowest cX6_lowest 2 (some .int) :: wsL_law) ({ frames := 0, cells := 0, slots := 0, locals := 0 }) (va_Pc [.int p0] (fun U => va_P D vwCl [] U.heap ∧ va_K D vwCl (TY g) U)) (vp_Si (fun r => 0 ≤ (r : Int32).toInt ∧ (r : Int32).toInt ≤ 2)) 0 0 (fun _ => False) := by
  refine Met.ofW (cc := cX6_lowest) (maxL := 2) (ret := (some .int)) (by decide) rfl ?_
  intro p e s m args below meth c s₁ B hml hv
  obtain ⟨ha, hP, hK⟩ := hv
  have hx := B.exec
  have hb := B.bytes
  have hr := B.returns
  have hts0 := atoms_spec (ws := (.code yX6_lowest cX6_lowest 2 (some .int) :: wsL_law)) B.pre
  have hts : ∀ w ∈ wsL_law, w.before args s = true := fun w h => hts0 w (List.mem_cons_of_mem _ h)
  have hown : s.vm.findClass RX6 = some m.cls := findClass_of_methodNamed B.named
  have hlocks := B.notSynchronized
  have hP : va_P D vwCl [] s.heap := hP
  refine W.eq (g2 := entryFrame m ([.int p0] : List Value).toArray 2) (by rw [ha]) ?_
  have hl := lv_entry ([.int p0]) (n := 2) (Nat.le_of_ble_eq_true rfl)
  rw [lg_entry_eq]
  generalize (lg_sl ([.int p0]) ++ List.replicate (2 - (lg_sl ([.int p0])).length) Slot.unset).toArray = ls at hl ⊢
  have hl : lv_has ls 2 [(0, .int p0)] := hl
  refine lv_iconst (v := 0) hx hb dX6_lowest_0 (by decide) ?_
  refine lv_istore_n (lv' := [(1, .int 0), (0, .int p0)]) hx hb dX6_lowest_1 rfl hl (by decide) rfl (fun ls hl => ?_)
  have lp_86173 : ∀ (n_86173 : Nat) (x_86172 : Int32) (ls : Array Slot), (0 ≤ (x_86172 : Int32).toInt ∧ (x_86172 : Int32).toInt ≤ 3) → (3 - x_86172.toInt < (n_86173 : Int)) → lv_has ls 2 [(1, .int x_86172), (0, .int p0)] → W p l e (headSpec (.code yX6_lowest cX6_lowest 2 (some .int) :: wsL_law) ({ frames := 0, cells := 0, slots := 0, locals := 0 })).room s m args below meth c s.heap [] 0 0 (MQ below (vp_Si (fun r => 0 ≤ (r : Int32).toInt ∧ (r : Int32).toInt ≤ 2)) args s 0 0 (fun _ => False)) (F0 m 2 ls []) := by
    intro n_86173
    induction n_86173 with
    | zero =>
      intro x_86172 ls h_x_86172 hm_86173 hl
      exfalso; omega
    | succ n_86173 ih_86173 =>
      intro x_86172 ls h_x_86172 hm_86173 hl
      refine lv_iload_n hx hb dX6_lowest_2 rfl (lv_at hl 0 rfl) ?_
      refine lv_iconst (v := 3) hx hb dX6_lowest_3 (by decide) ?_
      refine lv_icmp_ge (tgt := 23) hx hb dX6_lowest_4 (by decide) (fun c_86174 => ?_) (fun c_86174 => ?_)
      · skip
        have c_86174_i := Int32.le_iff_toInt_le.mp c_86174
        have h_86175 : 3 ≤ (x_86172 : Int32).toInt ∧ (x_86172 : Int32).toInt ≤ 3 := nr_le_r (⟨by decide, by decide⟩ : 3 ≤ (3 : Int32).toInt ∧ (3 : Int32).toInt ≤ 3) h_x_86172 c_86174_i (by decide) (by decide)
        refine lv_iconst (v := 0) hx hb dX6_lowest_23 (by decide) ?_
        exact W.iret (v := 0) hx hb hr (fun t ht hW => ⟨0, rfl, (⟨by decide, by decide⟩ : 0 ≤ (0 : Int32).toInt ∧ (0 : Int32).toInt ≤ 2), ht⟩) (fun _ h => nomatch h) dX6_lowest_24
      · skip
        have c_86174_i := Int32.lt_iff_toInt_lt.mp (Int32.not_le.mp c_86174)
        have h_86176 : 0 ≤ (x_86172 : Int32).toInt ∧ (x_86172 : Int32).toInt ≤ 2 := nr_lt_l h_x_86172 (⟨by decide, by decide⟩ : 3 ≤ (3 : Int32).toInt ∧ (3 : Int32).toInt ≤ 3) c_86174_i (by decide) (by decide)
        refine lv_iload_n hx hb dX6_lowest_7 rfl (lv_at hl 1 rfl) ?_
        refine lv_iload_n hx hb dX6_lowest_8 rfl (lv_at hl 0 rfl) ?_
        refine lv_ishr hx hb dX6_lowest_9 ?_
        refine lv_topi (fun v_86177 v_86177_e => ?_)
        refine lv_iconst (v := 1) hx hb dX6_lowest_10 (by decide) ?_
        refine lv_iand hx hb dX6_lowest_11 ?_
        refine lv_topi (fun v_86178 v_86178_e => ?_)
        refine lv_if_eq (tgt := 17) hx hb dX6_lowest_12 (by decide) (fun c_86179 => ?_) (fun c_86179 => ?_)
        · skip
          have h_86180 : 0 ≤ (v_86178 : Int32).toInt ∧ (v_86178 : Int32).toInt ≤ 0 := by rw [c_86179]; exact ⟨by decide, by decide⟩
          obtain ⟨v_86181, v_86181_e⟩ : ∃ y : Int32, y = x_86172 + Int32.ofInt 1 := ⟨_, rfl⟩
          have h_v_86181 : 1 ≤ (v_86181 : Int32).toInt ∧ (v_86181 : Int32).toInt ≤ 3 := by rw [v_86181_e]; exact tr_add h_86176 (⟨by decide, by decide⟩ : 1 ≤ (Int32.ofInt 1 : Int32).toInt ∧ (Int32.ofInt 1 : Int32).toInt ≤ 1) (by decide) (by decide) (by decide) (by decide)
          have q_v_86181 : v_86181.toInt = x_86172.toInt + 1 := by rw [v_86181_e]; exact tr_addE h_86176 (⟨by decide, by decide⟩ : 1 ≤ (Int32.ofInt 1 : Int32).toInt ∧ (Int32.ofInt 1 : Int32).toInt ≤ 1) (by decide) (by decide)
          refine lv_iinc (v := v_86181) (lv' := [(1, .int v_86181), (0, .int p0)]) hx hb dX6_lowest_17 hl (k := 0) rfl v_86181_e.symm (by decide) rfl (fun ls hl => ?_)
          refine lv_goto (tgt := 2) hx hb dX6_lowest_20 (by decide) ?_
          exact ih_86173 v_86181 ls (tr_w h_v_86181 (by decide) (by decide)) (by omega) (lv_sub hl [0, 1] rfl)
        · skip
          refine lv_iload_n hx hb dX6_lowest_15 rfl (lv_at hl 0 rfl) ?_
          exact W.iret (v := x_86172) hx hb hr (fun t ht hW => ⟨x_86172, rfl, (tr_w h_86176 (by decide) (by decide)), ht⟩) (fun _ h => nomatch h) dX6_lowest_16
  exact lp_86173 4 0 ls (⟨by decide, by decide⟩ : 0 ≤ (0 : Int32).toInt ∧ (0 : Int32).toInt ≤ 3) (by decide) (lv_sub hl [0, 1] rfl)
set_option maxHeartbeats 4000000 in
set_option maxRecDepth 100000 in
theorem c_X6_keepEven (l : Launch) (D : va_G) (g : Nat → ClassId) (sz : Nat) (sv : Nat) (vs : Nat) (n : Nat) (co : Nat) (sv_keep : Nat) (sv_scaled : Nat) (n_nodes : Int32) (n_kind : Nat) (n_pay : Nat) (n_name : Nat) (n_ways : Nat) (n_held : Nat) (n_targets : Nat) (n_weights : Nat) (n_fkind : Nat → Int32) (n_fpay : Nat → Int32) (n_fways : Nat → Int32) (n_fheld : Nat → Int32) (n_ftargets : Nat → Int32) (vs_part : Nat) (vsw : Int64) (vsp : Nat → Int64) (kpf : Nat → Int32) (h_n_nodes : 0 ≤ (n_nodes : Int32).toInt ∧ (n_nodes : Int32).toInt ≤ 12) (h_n_fkind : ∀ j : Nat, 0 ≤ (n_fkind j).toInt ∧ (n_fkind j).toInt ≤ 3) (h_n_fways : ∀ j : Nat, 0 ≤ (n_fways j).toInt ∧ (n_fways j).toInt ≤ 3) (h_n_fheld : ∀ j : Nat, (-1) ≤ (n_fheld j).toInt ∧ (n_fheld j).toInt ≤ 2) (h_n_ftargets : ∀ j : Nat, 0 ≤ (n_ftargets j).toInt ∧ (n_ftargets j).toInt ≤ 11) : Met l yX6_keepEven (.code yX6_keepEven cX6_keepEven 4 none :: wsL_law) ({ frames := 1, cells := 0, slots := 0, locals := 22 }) (va_Pc [.ref sv, .ref vs] (fun U => U.heap.size = sz ∧ va_P D vwCl [(wO6 sv n co sv_keep sv_scaled), (wO2 n n_nodes n_kind n_pay n_name n_ways n_held n_targets n_weights), (wI g n_kind 0 12 n_fkind), (wI g n_pay 0 12 n_fpay), (wI g n_ways 0 12 n_fways), (wI g n_held 0 12 n_fheld), (wI g n_targets 0 36 n_ftargets), (wO10 vs vs_part vsw), (wJ g vs_part 1 12 vsp), (wI g sv_keep 0 12 kpf)] U.heap ∧ va_K D vwCl (TY g) U ∧ va_D (fun _ => True) [(wO6 sv n co sv_keep sv_scaled), (wO2 n n_nodes n_kind n_pay n_name n_ways n_held n_targets n_weights), (wI g n_kind 0 12 n_fkind), (wI g n_pay 0 12 n_fpay), (wI g n_ways 0 12 n_fways), (wI g n_held 0 12 n_fheld), (wI g n_targets 0 36 n_ftargets), (wO10 vs vs_part vsw), (wJ g vs_part 1 12 vsp), (wI g sv_keep 0 12 kpf)])) (va_Qv (fun (_ : Unit) => True) (fun _ t => ∃ okp : Nat → Int32, va_P D vwCl [(wO6 sv n co sv_keep sv_scaled), (wO2 n n_nodes n_kind n_pay n_name n_ways n_held n_targets n_weights), (wI g n_kind 0 12 n_fkind), (wI g n_pay 0 12 n_fpay), (wI g n_ways 0 12 n_fways), (wI g n_held 0 12 n_fheld), (wI g n_targets 0 36 n_ftargets), (wO10 vs vs_part vsw), (wJ g vs_part 1 12 vsp), (wI g sv_keep 0 12 okp)] t.heap ∧ va_D (va_A [(wO6 sv n co sv_keep sv_scaled), (wO2 n n_nodes n_kind n_pay n_name n_ways n_held n_targets n_weights), (wI g n_kind 0 12 n_fkind), (wI g n_pay 0 12 n_fpay), (wI g n_ways 0 12 n_fways), (wI g n_held 0 12 n_fheld), (wI g n_targets 0 36 n_ftargets), (wO10 vs vs_part vsw), (wJ g vs_part 1 12 vsp), (wI g sv_keep 0 12 kpf)] sz) [(wO6 sv n co sv_keep sv_scaled), (wO2 n n_nodes n_kind n_pay n_name n_ways n_held n_targets n_weights), (wI g n_kind 0 12 n_fkind), (wI g n_pay 0 12 n_fpay), (wI g n_ways 0 12 n_fways), (wI g n_held 0 12 n_fheld), (wI g n_targets 0 36 n_ftargets), (wO10 vs vs_part vsw), (wJ g vs_part 1 12 vsp), (wI g sv_keep 0 12 okp)]) (va_A [(wO6 sv n co sv_keep sv_scaled), (wO2 n n_nodes n_kind n_pay n_name n_ways n_held n_targets n_weights), (wI g n_kind 0 12 n_fkind), (wI g n_pay 0 12 n_fpay), (wI g n_ways 0 12 n_fways), (wI g n_held 0 12 n_fheld), (wI g n_targets 0 36 n_ftargets), (wO10 vs vs_part vsw), (wJ g vs_part 1 12 vsp), (wI g sv_keep 0 12 kpf)] sz)) 0 0 (va_A [(wO6 sv n co sv_keep sv_scaled), (wO2 n n_nodes n_kind n_pay n_name n_ways n_held n_targets n_weights), (wI g n_kind 0 12 n_fkind), (wI g n_pay 0 12 n_fpay), (wI g n_ways 0 12 n_fways), (wI g n_held 0 12 n_fheld), (wI g n_targets 0 36 n_ftargets), (wO10 vs vs_part vsw), (wJ g vs_part 1 12 vsp), (wI g sv_keep 0 12 kpf)] sz) := by
  refine Met.ofW (cc := cX6_keepEven) (maxL := 4) (ret := none) (by decide) rfl ?_
  intro p e s m args below meth c s₁ B hml hv
  obtain ⟨ha, hsz, hP, hK, hD0⟩ := hv
  have hx := B.exec
  have hb := B.bytes
  have hr := B.returns
  have hts0 := atoms_spec (ws := (.code yX6_keepEven cX6_keepEven 4 none :: wsL_law)) B.pre
  have hts : ∀ w ∈ wsL_law, w.before args s = true := fun w h => hts0 w (List.mem_cons_of_mem _ h)
  have hown : s.vm.findClass RX6 = some m.cls := findClass_of_methodNamed B.named
  have hlocks := B.notSynchronized
  subst hsz
  have hD := hD0.self (sz := s.heap.size)
  generalize hAe : va_A [(wO6 sv n co sv_keep sv_scaled), (wO2 n n_nodes n_kind n_pay n_name n_ways n_held n_targets n_weights), (wI g n_kind 0 12 n_fkind), (wI g n_pay 0 12 n_fpay), (wI g n_ways 0 12 n_fways), (wI g n_held 0 12 n_fheld), (wI g n_targets 0 36 n_ftargets), (wO10 vs vs_part vsw), (wJ g vs_part 1 12 vsp), (wI g sv_keep 0 12 kpf)] s.heap.size = A at hD ⊢
  have hA : ∀ q : Nat, s.heap.size ≤ q → A q := fun q h => by rw [← hAe]; exact Or.inr h
  have hS : va_S A s.heap s.heap [] := va_S.rf
  have hP : va_P D vwCl [(wO6 sv n co sv_keep sv_scaled), (wO2 n n_nodes n_kind n_pay n_name n_ways n_held n_targets n_weights), (wI g n_kind 0 12 n_fkind), (wI g n_pay 0 12 n_fpay), (wI g n_ways 0 12 n_fways), (wI g n_held 0 12 n_fheld), (wI g n_targets 0 36 n_ftargets), (wO10 vs vs_part vsw), (wJ g vs_part 1 12 vsp), (wI g sv_keep 0 12 kpf)] s.heap := hP
  refine W.eq (g2 := entryFrame m ([.ref sv, .ref vs] : List Value).toArray 4) (by rw [ha]) ?_
  have hl := lv_entry ([.ref sv, .ref vs]) (n := 4) (Nat.le_of_ble_eq_true rfl)
  rw [lg_entry_eq]
  generalize (lg_sl ([.ref sv, .ref vs]) ++ List.replicate (4 - (lg_sl ([.ref sv, .ref vs])).length) Slot.unset).toArray = ls at hl ⊢
  have hl : lv_has ls 4 [(0, .ref sv), (1, .ref vs)] := hl
  refine lv_iconst (v := 0) hx hb dX6_keepEven_0 (by decide) ?_
  refine lv_istore_n (lv' := [(2, .int 0), (0, .ref sv), (1, .ref vs)]) hx hb dX6_keepEven_1 rfl hl (by decide) rfl (fun ls hl => ?_)
  have lp_87217 : ∀ (n_87217 : Nat) (x_87215 : Int32) (f_87216 : Nat → Int32) (H : Heap) (locs : List Loc) (ls : Array Slot), (0 ≤ (x_87215 : Int32).toInt ∧ (x_87215 : Int32).toInt ≤ 12) → (12 - x_87215.toInt < (n_87217 : Int)) → va_P D vwCl [(wO6 sv n co sv_keep sv_scaled), (wO2 n n_nodes n_kind n_pay n_name n_ways n_held n_targets n_weights), (wI g n_kind 0 12 n_fkind), (wI g n_pay 0 12 n_fpay), (wI g n_ways 0 12 n_fways), (wI g n_held 0 12 n_fheld), (wI g n_targets 0 36 n_ftargets), (wO10 vs vs_part vsw), (wJ g vs_part 1 12 vsp), (wI g sv_keep 0 12 f_87216)] H → va_D A [(wO6 sv n co sv_keep sv_scaled), (wO2 n n_nodes n_kind n_pay n_name n_ways n_held n_targets n_weights), (wI g n_kind 0 12 n_fkind), (wI g n_pay 0 12 n_fpay), (wI g n_ways 0 12 n_fways), (wI g n_held 0 12 n_fheld), (wI g n_targets 0 36 n_ftargets), (wO10 vs vs_part vsw), (wJ g vs_part 1 12 vsp), (wI g sv_keep 0 12 f_87216)] → va_S A s.heap H locs → lv_has ls 4 [(2, .int x_87215), (0, .ref sv), (1, .ref vs)] → W p l e (headSpec (.code yX6_keepEven cX6_keepEven 4 none :: wsL_law) ({ frames := 1, cells := 0, slots := 0, locals := 22 })).room s m args below meth c H locs 0 0 (MQ below (va_Qv (fun (_ : Unit) => True) (fun _ t => ∃ okp : Nat → Int32, va_P D vwCl [(wO6 sv n co sv_keep sv_scaled), (wO2 n n_nodes n_kind n_pay n_name n_ways n_held n_targets n_weights), (wI g n_kind 0 12 n_fkind), (wI g n_pay 0 12 n_fpay), (wI g n_ways 0 12 n_fways), (wI g n_held 0 12 n_fheld), (wI g n_targets 0 36 n_ftargets), (wO10 vs vs_part vsw), (wJ g vs_part 1 12 vsp), (wI g sv_keep 0 12 okp)] t.heap ∧ va_D A [(wO6 sv n co sv_keep sv_scaled), (wO2 n n_nodes n_kind n_pay n_name n_ways n_held n_targets n_weights), (wI g n_kind 0 12 n_fkind), (wI g n_pay 0 12 n_fpay), (wI g n_ways 0 12 n_fways), (wI g n_held 0 12 n_fheld), (wI g n_targets 0 36 n_ftargets), (wO10 vs vs_part vsw), (wJ g vs_part 1 12 vsp), (wI g sv_keep 0 12 okp)]) A) args s 0 0 A) (F0 m 2 ls []) := by
    intro n_87217
    induction n_87217 with
    | zero =>
      intro x_87215 f_87216 H locs ls h_x_87215 hm_87217 hP hD hS hl
      exfalso; omega
    | succ n_87217 ih_87217 =>
      intro x_87215 f_87216 H locs ls h_x_87215 hm_87217 hP hD hS hl
      refine lv_iload_n hx hb dX6_keepEven_2 rfl (lv_at hl 0 rfl) ?_
      refine lv_aload_n hx hb dX6_keepEven_3 rfl (lv_at hl 1 rfl) ?_
      refine va_get (D := D) (ci := 6) (v := .ref n) (C := RX6) (T := TX6) (N := 4) hx hb hts inlX6 hown hK hP 0 rfl rfl 0 (by decide) (hts (Cond.fieldLink RX6 19 "ChanceRings$Solver" "net" "LChanceRings$Net;") qw_548) (fun _ h9 => h9) rfl dX6_keepEven_4 ?_
      refine va_get (D := D) (ci := 2) (v := .int n_nodes) (C := RX2) (T := TX2) (N := 8) hx hb hts inlX2 hown hK hP 1 rfl rfl 0 (by decide) (hts (Cond.fieldLink RX6 32 "ChanceRings$Net" "nodes" "I") qw_549) (fun _ h9 => h9) rfl dX6_keepEven_7 ?_
      refine lv_icmp_ge (tgt := 95) hx hb dX6_keepEven_10 (by decide) (fun c_87218 => ?_) (fun c_87218 => ?_)
      · skip
        have hP9 := hP.sub (ws' := [(wO6 sv n co sv_keep sv_scaled), (wO2 n n_nodes n_kind n_pay n_name n_ways n_held n_targets n_weights), (wI g n_kind 0 12 n_fkind), (wI g n_pay 0 12 n_fpay), (wI g n_ways 0 12 n_fways), (wI g n_held 0 12 n_fheld), (wI g n_targets 0 36 n_ftargets), (wO10 vs vs_part vsw), (wJ g vs_part 1 12 vsp), (wI g sv_keep 0 12 f_87216)]) [0, 1, 2, 3, 4, 5, 6, 7, 8, 9] rfl
        have hD9 := hD.sub (ws' := [(wO6 sv n co sv_keep sv_scaled), (wO2 n n_nodes n_kind n_pay n_name n_ways n_held n_targets n_weights), (wI g n_kind 0 12 n_fkind), (wI g n_pay 0 12 n_fpay), (wI g n_ways 0 12 n_fways), (wI g n_held 0 12 n_fheld), (wI g n_targets 0 36 n_ftargets), (wO10 vs vs_part vsw), (wJ g vs_part 1 12 vsp), (wI g sv_keep 0 12 f_87216)]) [0, 1, 2, 3, 4, 5, 6, 7, 8, 9] (by decide) rfl
        exact W.vret hx hb hr (fun t ht hW => ⟨⟨(), rfl, trivial, f_87216, by rw [ht]; exact hP9, hD9⟩, hS.F ht⟩) hS.2.2 dX6_keepEven_95
      · skip
        have c_87218_i := Int32.lt_iff_toInt_lt.mp (Int32.not_le.mp c_87218)
        have h_87219 : 0 ≤ (x_87215 : Int32).toInt ∧ (x_87215 : Int32).toInt ≤ 11 := nr_lt_l h_x_87215 h_n_nodes c_87218_i (by decide) (by decide)
        have h_87220 : 1 ≤ (n_nodes : Int32).toInt ∧ (n_nodes : Int32).toInt ≤ 12 := nr_lt_r h_x_87215 h_n_nodes c_87218_i (by decide) (by decide)
        refine lv_aload_n hx hb dX6_keepEven_13 rfl (lv_at hl 1 rfl) ?_
        refine va_get (D := D) (ci := 6) (v := .ref sv_keep) (C := RX6) (T := TX6) (N := 4) hx hb hts inlX6 hown hK hP 0 rfl rfl 2 (by decide) (hts (Cond.fieldLink RX6 9 "ChanceRings$Solver" "keep" "[I") qw_587) (fun _ h9 => h9) rfl dX6_keepEven_14 ?_
        refine lv_iload_n hx hb dX6_keepEven_17 rfl (lv_at hl 0 rfl) ?_
        refine lv_iconst (v := 0) hx hb dX6_keepEven_18 (by decide) ?_
        refine va_iast hx hb hK hP hD hS 9 0 rfl rfl (tr_in h_87219 (by decide) (by decide)) dX6_keepEven_19 (fun H locs hP hD hS => ?_)
        obtain ⟨f_87221, hP, hD⟩ : ∃ FX : Nat → Int32, va_P D vwCl [(wO6 sv n co sv_keep sv_scaled), (wO2 n n_nodes n_kind n_pay n_name n_ways n_held n_targets n_weights), (wI g n_kind 0 12 n_fkind), (wI g n_pay 0 12 n_fpay), (wI g n_ways 0 12 n_fways), (wI g n_held 0 12 n_fheld), (wI g n_targets 0 36 n_ftargets), (wO10 vs vs_part vsw), (wJ g vs_part 1 12 vsp), (wI g sv_keep 0 12 FX)] H ∧ va_D A [(wO6 sv n co sv_keep sv_scaled), (wO2 n n_nodes n_kind n_pay n_name n_ways n_held n_targets n_weights), (wI g n_kind 0 12 n_fkind), (wI g n_pay 0 12 n_fpay), (wI g n_ways 0 12 n_fways), (wI g n_held 0 12 n_fheld), (wI g n_targets 0 36 n_ftargets), (wO10 vs vs_part vsw), (wJ g vs_part 1 12 vsp), (wI g sv_keep 0 12 FX)] := ⟨_, hP, hD⟩
        have hP : va_P D vwCl [(wO6 sv n co sv_keep sv_scaled), (wO2 n n_nodes n_kind n_pay n_name n_ways n_held n_targets n_weights), (wI g n_kind 0 12 n_fkind), (wI g n_pay 0 12 n_fpay), (wI g n_ways 0 12 n_fways), (wI g n_held 0 12 n_fheld), (wI g n_targets 0 36 n_ftargets), (wO10 vs vs_part vsw), (wJ g vs_part 1 12 vsp), (wI g sv_keep 0 12 f_87221)] H := hP
        have hD : va_D A [(wO6 sv n co sv_keep sv_scaled), (wO2 n n_nodes n_kind n_pay n_name n_ways n_held n_targets n_weights), (wI g n_kind 0 12 n_fkind), (wI g n_pay 0 12 n_fpay), (wI g n_ways 0 12 n_fways), (wI g n_held 0 12 n_fheld), (wI g n_targets 0 36 n_ftargets), (wO10 vs vs_part vsw), (wJ g vs_part 1 12 vsp), (wI g sv_keep 0 12 f_87221)] := hD
        refine lv_iconst (v := 0) hx hb dX6_keepEven_20 (by decide) ?_
        refine lv_istore_n (lv' := [(3, .int 0), (2, .int x_87215), (0, .ref sv), (1, .ref vs)]) hx hb dX6_keepEven_21 rfl hl (by decide) rfl (fun ls hl => ?_)
        have lp_87322 : ∀ (n_87322 : Nat) (x_87320 : Int32) (f_87321 : Nat → Int32) (H : Heap) (locs : List Loc) (ls : Array Slot), (0 ≤ (x_87320 : Int32).toInt ∧ (x_87320 : Int32).toInt ≤ 3) → (3 - x_87320.toInt < (n_87322 : Int)) → va_P D vwCl [(wO6 sv n co sv_keep sv_scaled), (wO2 n n_nodes n_kind n_pay n_name n_ways n_held n_targets n_weights), (wI g n_kind 0 12 n_fkind), (wI g n_pay 0 12 n_fpay), (wI g n_ways 0 12 n_fways), (wI g n_held 0 12 n_fheld), (wI g n_targets 0 36 n_ftargets), (wO10 vs vs_part vsw), (wJ g vs_part 1 12 vsp), (wI g sv_keep 0 12 f_87321)] H → va_D A [(wO6 sv n co sv_keep sv_scaled), (wO2 n n_nodes n_kind n_pay n_name n_ways n_held n_targets n_weights), (wI g n_kind 0 12 n_fkind), (wI g n_pay 0 12 n_fpay), (wI g n_ways 0 12 n_fways), (wI g n_held 0 12 n_fheld), (wI g n_targets 0 36 n_ftargets), (wO10 vs vs_part vsw), (wJ g vs_part 1 12 vsp), (wI g sv_keep 0 12 f_87321)] → va_S A s.heap H locs → lv_has ls 4 [(3, .int x_87320), (2, .int x_87215), (0, .ref sv), (1, .ref vs)] → W p l e (headSpec (.code yX6_keepEven cX6_keepEven 4 none :: wsL_law) ({ frames := 1, cells := 0, slots := 0, locals := 22 })).room s m args below meth c H locs 0 0 (MQ below (va_Qv (fun (_ : Unit) => True) (fun _ t => ∃ okp : Nat → Int32, va_P D vwCl [(wO6 sv n co sv_keep sv_scaled), (wO2 n n_nodes n_kind n_pay n_name n_ways n_held n_targets n_weights), (wI g n_kind 0 12 n_fkind), (wI g n_pay 0 12 n_fpay), (wI g n_ways 0 12 n_fways), (wI g n_held 0 12 n_fheld), (wI g n_targets 0 36 n_ftargets), (wO10 vs vs_part vsw), (wJ g vs_part 1 12 vsp), (wI g sv_keep 0 12 okp)] t.heap ∧ va_D A [(wO6 sv n co sv_keep sv_scaled), (wO2 n n_nodes n_kind n_pay n_name n_ways n_held n_targets n_weights), (wI g n_kind 0 12 n_fkind), (wI g n_pay 0 12 n_fpay), (wI g n_ways 0 12 n_fways), (wI g n_held 0 12 n_fheld), (wI g n_targets 0 36 n_ftargets), (wO10 vs vs_part vsw), (wJ g vs_part 1 12 vsp), (wI g sv_keep 0 12 okp)]) A) args s 0 0 A) (F0 m 22 ls []) := by
          intro n_87322
          induction n_87322 with
          | zero =>
            intro x_87320 f_87321 H locs ls h_x_87320 hm_87322 hP hD hS hl
            exfalso; omega
          | succ n_87322 ih_87322 =>
            intro x_87320 f_87321 H locs ls h_x_87320 hm_87322 hP hD hS hl
            refine lv_iload_n hx hb dX6_keepEven_22 rfl (lv_at hl 0 rfl) ?_
            refine lv_aload_n hx hb dX6_keepEven_23 rfl (lv_at hl 2 rfl) ?_
            refine va_get (D := D) (ci := 6) (v := .ref n) (C := RX6) (T := TX6) (N := 4) hx hb hts inlX6 hown hK hP 0 rfl rfl 0 (by decide) (hts (Cond.fieldLink RX6 19 "ChanceRings$Solver" "net" "LChanceRings$Net;") qw_548) (fun _ h9 => h9) rfl dX6_keepEven_24 ?_
            refine va_get (D := D) (ci := 2) (v := .ref n_ways) (C := RX2) (T := TX2) (N := 8) hx hb hts inlX2 hown hK hP 1 rfl rfl 4 (by decide) (hts (Cond.fieldLink RX6 68 "ChanceRings$Net" "ways" "[I") qw_552) (fun _ h9 => h9) rfl dX6_keepEven_27 ?_
            refine lv_iload_n hx hb dX6_keepEven_30 rfl (lv_at hl 1 rfl) ?_
            refine va_iald hx hb hK hP 4 0 rfl rfl (tr_in h_87219 (by decide) (by decide)) dX6_keepEven_31 ?_
            refine lv_topi (fun v_87323 v_87323_e => ?_)
            have h_v_87323 : 0 ≤ (v_87323 : Int32).toInt ∧ (v_87323 : Int32).toInt ≤ 3 := by rw [v_87323_e]; exact h_n_fways _
            refine lv_icmp_ge (tgt := 89) hx hb dX6_keepEven_32 (by decide) (fun c_87324 => ?_) (fun c_87324 => ?_)
            · skip
              obtain ⟨v_87327, v_87327_e⟩ : ∃ y : Int32, y = x_87215 + Int32.ofInt 1 := ⟨_, rfl⟩
              have h_v_87327 : 1 ≤ (v_87327 : Int32).toInt ∧ (v_87327 : Int32).toInt ≤ 12 := by rw [v_87327_e]; exact tr_add h_87219 (⟨by decide, by decide⟩ : 1 ≤ (Int32.ofInt 1 : Int32).toInt ∧ (Int32.ofInt 1 : Int32).toInt ≤ 1) (by decide) (by decide) (by decide) (by decide)
              have q_v_87327 : v_87327.toInt = x_87215.toInt + 1 := by rw [v_87327_e]; exact tr_addE h_87219 (⟨by decide, by decide⟩ : 1 ≤ (Int32.ofInt 1 : Int32).toInt ∧ (Int32.ofInt 1 : Int32).toInt ≤ 1) (by decide) (by decide)
              refine lv_iinc (v := v_87327) (lv' := [(2, .int v_87327), (3, .int x_87320), (0, .ref sv), (1, .ref vs)]) hx hb dX6_keepEven_89 hl (k := 1) rfl v_87327_e.symm (by decide) rfl (fun ls hl => ?_)
              refine lv_goto (tgt := 2) hx hb dX6_keepEven_92 (by decide) ?_
              exact ih_87217 v_87327 f_87321 H _ ls (tr_w h_v_87327 (by decide) (by decide)) (by omega) (hP.sub [0, 1, 2, 3, 4, 5, 6, 7, 8, 9] rfl) (hD.sub [0, 1, 2, 3, 4, 5, 6, 7, 8, 9] (by decide) rfl) hS (lv_sub hl [0, 2, 3] rfl)
            · skip
              have c_87324_i := Int32.lt_iff_toInt_lt.mp (Int32.not_le.mp c_87324)
              have h_87325 : 0 ≤ (x_87320 : Int32).toInt ∧ (x_87320 : Int32).toInt ≤ 2 := nr_lt_l h_x_87320 h_v_87323 c_87324_i (by decide) (by decide)
              have h_87326 : 1 ≤ (v_87323 : Int32).toInt ∧ (v_87323 : Int32).toInt ≤ 3 := nr_lt_r h_x_87320 h_v_87323 c_87324_i (by decide) (by decide)
              refine lv_aload_n hx hb dX6_keepEven_35 rfl (lv_at hl 2 rfl) ?_
              refine va_get (D := D) (ci := 6) (v := .ref n) (C := RX6) (T := TX6) (N := 4) hx hb hts inlX6 hown hK hP 0 rfl rfl 0 (by decide) (hts (Cond.fieldLink RX6 19 "ChanceRings$Solver" "net" "LChanceRings$Net;") qw_548) (fun _ h9 => h9) rfl dX6_keepEven_36 ?_
              refine lv_iload_n hx hb dX6_keepEven_39 rfl (lv_at hl 1 rfl) ?_
              refine lv_iload_n hx hb dX6_keepEven_40 rfl (lv_at hl 0 rfl) ?_
              have hPc := hP.sub (ws' := [(wO2 n n_nodes n_kind n_pay n_name n_ways n_held n_targets n_weights), (wI g n_held 0 12 n_fheld)]) [1, 5] rfl
              refine vp_callSi (va_Run.run (va_runV (As := [.int x_87215, .int x_87320]) (rest := []) ⟨hx, hb, hml, hown, hts⟩ (c_X2_canTake l D g n x_87215 x_87320 n_nodes n_kind n_pay n_name n_ways n_held n_targets n_weights n_fheld (tr_w h_87219 (by decide) (by decide)) (tr_w h_87220 (by decide) (by decide)) (tr_wa h_n_fheld (by decide) (by decide))) (cwV 2 hts (tz_gV qw_588 qw_320 qw_321 qw_322 qw_323) rfl rfl rfl (by decide +kernel) ⟨Nat.le_of_ble_eq_true rfl, Nat.le_of_ble_eq_true rfl⟩) ⟨tz_blS, va_recv hK hPc (ci := 2) (q0 := 0) rfl rfl, tz_preS hPc hK⟩ rfl rfl hl.1 rfl (lv_room (Nat.le_of_ble_eq_true rfl)) dX6_keepEven_41 ⟨Nat.le_of_ble_eq_true rfl, Nat.le_of_ble_eq_true rfl⟩)) (fun r_87328 hw => ?_)
              have hw_87329 : 0 ≤ (r_87328 : Int32).toInt ∧ (r_87328 : Int32).toInt ≤ 1 := hw
              refine lv_if_eq (tgt := 83) hx hb dX6_keepEven_44 (by decide) (fun c_87330 => ?_) (fun c_87330 => ?_)
              · skip
                have c_87330_i : (r_87328 : Int32).toInt = (0 : Int32).toInt := congrArg Int32.toInt c_87330
                have h_87331 : 0 ≤ (r_87328 : Int32).toInt ∧ (r_87328 : Int32).toInt ≤ 0 := nr_eq_l hw_87329 (⟨by decide, by decide⟩ : 0 ≤ (0 : Int32).toInt ∧ (0 : Int32).toInt ≤ 0) c_87330_i (by decide) (by decide)
                obtain ⟨v_87333, v_87333_e⟩ : ∃ y : Int32, y = x_87320 + Int32.ofInt 1 := ⟨_, rfl⟩
                have h_v_87333 : 1 ≤ (v_87333 : Int32).toInt ∧ (v_87333 : Int32).toInt ≤ 3 := by rw [v_87333_e]; exact tr_add h_87325 (⟨by decide, by decide⟩ : 1 ≤ (Int32.ofInt 1 : Int32).toInt ∧ (Int32.ofInt 1 : Int32).toInt ≤ 1) (by decide) (by decide) (by decide) (by decide)
                have q_v_87333 : v_87333.toInt = x_87320.toInt + 1 := by rw [v_87333_e]; exact tr_addE h_87325 (⟨by decide, by decide⟩ : 1 ≤ (Int32.ofInt 1 : Int32).toInt ∧ (Int32.ofInt 1 : Int32).toInt ≤ 1) (by decide) (by decide)
                refine lv_iinc (v := v_87333) (lv' := [(3, .int v_87333), (2, .int x_87215), (0, .ref sv), (1, .ref vs)]) hx hb dX6_keepEven_83 hl (k := 0) rfl v_87333_e.symm (by decide) rfl (fun ls hl => ?_)
                refine lv_goto (tgt := 22) hx hb dX6_keepEven_86 (by decide) ?_
                exact ih_87322 v_87333 f_87321 H _ ls (tr_w h_v_87333 (by decide) (by decide)) (by (first | (clear h_n_nodes h_x_87215 c_87218_i h_87219 h_87220 hw_87329 c_87330_i h_87331; omega) | omega)) (hP.sub [0, 1, 2, 3, 4, 5, 6, 7, 8, 9] rfl) (hD.sub [0, 1, 2, 3, 4, 5, 6, 7, 8, 9] (by decide) rfl) hS (lv_sub hl [0, 1, 2, 3] rfl)
              · skip
                have c_87330_i : ¬ (r_87328 : Int32).toInt = (0 : Int32).toInt := (fun q => c_87330 (Int32.toInt_inj.mp q))
                have h_87332 : 1 ≤ (r_87328 : Int32).toInt ∧ (r_87328 : Int32).toInt ≤ 1 := nr_ne_l hw_87329 (⟨by decide, by decide⟩ : 0 ≤ (0 : Int32).toInt ∧ (0 : Int32).toInt ≤ 0) c_87330_i (by decide) (by decide)
                refine lv_aload_n hx hb dX6_keepEven_47 rfl (lv_at hl 3 rfl) ?_
                refine va_get (D := D) (ci := 10) (v := .ref vs_part) (C := RX10) (T := TX10) (N := 2) hx hb hts inlX10 hown hK hP 7 rfl rfl 0 (by decide) (hts (Cond.fieldLink RX6 71 "ChanceRings$Values" "part" "[J") qw_553) (fun _ h9 => h9) rfl dX6_keepEven_48 ?_
                refine lv_aload_n hx hb dX6_keepEven_51 rfl (lv_at hl 2 rfl) ?_
                refine va_get (D := D) (ci := 6) (v := .ref n) (C := RX6) (T := TX6) (N := 4) hx hb hts inlX6 hown hK hP 0 rfl rfl 0 (by decide) (hts (Cond.fieldLink RX6 19 "ChanceRings$Solver" "net" "LChanceRings$Net;") qw_548) (fun _ h9 => h9) rfl dX6_keepEven_52 ?_
                refine lv_iload_n hx hb dX6_keepEven_55 rfl (lv_at hl 1 rfl) ?_
                refine lv_iload_n hx hb dX6_keepEven_56 rfl (lv_at hl 0 rfl) ?_
                have hPc := hP.sub (ws' := [(wO2 n n_nodes n_kind n_pay n_name n_ways n_held n_targets n_weights), (wI g n_targets 0 36 n_ftargets)]) [1, 6] rfl
                refine vp_callSi (va_Run.run (va_runV (As := [.int x_87215, .int x_87320]) (rest := [.ref vs_part]) ⟨hx, hb, hml, hown, hts⟩ (c_X2_target l D g n x_87215 x_87320 n_nodes n_kind n_pay n_name n_ways n_held n_targets n_weights n_ftargets (tr_w h_87219 (by decide) (by decide)) (tr_w h_87325 (by decide) (by decide)) (tr_w h_87220 (by decide) (by decide)) (tr_wa h_n_ftargets (by decide) (by decide))) (cwV 2 hts (tz_gV qw_554 qw_325 qw_326 qw_322 qw_327) rfl rfl rfl (by decide +kernel) ⟨Nat.le_of_ble_eq_true rfl, Nat.le_of_ble_eq_true rfl⟩) ⟨tz_blS, va_recv hK hPc (ci := 2) (q0 := 0) rfl rfl, tz_preS hPc hK⟩ rfl rfl hl.1 rfl (lv_room (Nat.le_of_ble_eq_true rfl)) dX6_keepEven_57 ⟨Nat.le_of_ble_eq_true rfl, Nat.le_of_ble_eq_true rfl⟩)) (fun r_87334 hw => ?_)
                have hw_87335 : 0 ≤ (r_87334 : Int32).toInt ∧ (r_87334 : Int32).toInt ≤ 11 := hw
                refine va_lald hx hb hK hP 8 1 rfl rfl (tr_in hw_87335 (by decide) (by decide)) dX6_keepEven_60 ?_
                refine lv_topl (fun w_87336 _ => ?_)
                refine lv_aload_n hx hb dX6_keepEven_61 rfl (lv_at hl 3 rfl) ?_
                refine va_get (D := D) (ci := 10) (v := .ref vs_part) (C := RX10) (T := TX10) (N := 2) hx hb hts inlX10 hown hK hP 7 rfl rfl 0 (by decide) (hts (Cond.fieldLink RX6 71 "ChanceRings$Values" "part" "[J") qw_553) (fun _ h9 => h9) rfl dX6_keepEven_62 ?_
                refine lv_iload_n hx hb dX6_keepEven_65 rfl (lv_at hl 1 rfl) ?_
                refine va_lald hx hb hK hP 8 1 rfl rfl (tr_in h_87219 (by decide) (by decide)) dX6_keepEven_66 ?_
                refine lv_topl (fun w_87337 _ => ?_)
                refine W.lcmp hx hb dX6_keepEven_67 ?_
                refine lv_topi (fun v_87338 v_87338_e => ?_)
                have h_v_87338 : (-1) ≤ (v_87338 : Int32).toInt ∧ (v_87338 : Int32).toInt ≤ 1 := by rw [v_87338_e]; exact tr_cmp _ _
                refine lv_if_ne (tgt := 83) hx hb dX6_keepEven_68 (by decide) (fun c_87339 => ?_) (fun c_87339 => ?_)
                · skip
                  obtain ⟨v_87341, v_87341_e⟩ : ∃ y : Int32, y = x_87320 + Int32.ofInt 1 := ⟨_, rfl⟩
                  have h_v_87341 : 1 ≤ (v_87341 : Int32).toInt ∧ (v_87341 : Int32).toInt ≤ 3 := by rw [v_87341_e]; exact tr_add h_87325 (⟨by decide, by decide⟩ : 1 ≤ (Int32.ofInt 1 : Int32).toInt ∧ (Int32.ofInt 1 : Int32).toInt ≤ 1) (by decide) (by decide) (by decide) (by decide)
                  have q_v_87341 : v_87341.toInt = x_87320.toInt + 1 := by rw [v_87341_e]; exact tr_addE h_87325 (⟨by decide, by decide⟩ : 1 ≤ (Int32.ofInt 1 : Int32).toInt ∧ (Int32.ofInt 1 : Int32).toInt ≤ 1) (by decide) (by decide)
                  refine lv_iinc (v := v_87341) (lv' := [(3, .int v_87341), (2, .int x_87215), (0, .ref sv), (1, .ref vs)]) hx hb dX6_keepEven_83 hl (k := 0) rfl v_87341_e.symm (by decide) rfl (fun ls hl => ?_)
                  refine lv_goto (tgt := 22) hx hb dX6_keepEven_86 (by decide) ?_
                  exact ih_87322 v_87341 f_87321 H _ ls (tr_w h_v_87341 (by decide) (by decide)) (by (first | (clear h_n_nodes h_x_87215 c_87218_i h_87219 h_87220 hw_87329 c_87330_i h_87332 hw_87335 h_v_87338; omega) | omega)) (hP.sub [0, 1, 2, 3, 4, 5, 6, 7, 8, 9] rfl) (hD.sub [0, 1, 2, 3, 4, 5, 6, 7, 8, 9] (by decide) rfl) hS (lv_sub hl [0, 1, 2, 3] rfl)
                · skip
                  have c_87339_i : (v_87338 : Int32).toInt = (0 : Int32).toInt := congrArg Int32.toInt c_87339
                  have h_87340 : 0 ≤ (v_87338 : Int32).toInt ∧ (v_87338 : Int32).toInt ≤ 0 := nr_eq_l h_v_87338 (⟨by decide, by decide⟩ : 0 ≤ (0 : Int32).toInt ∧ (0 : Int32).toInt ≤ 0) c_87339_i (by decide) (by decide)
                  refine lv_aload_n hx hb dX6_keepEven_71 rfl (lv_at hl 2 rfl) ?_
                  refine va_get (D := D) (ci := 6) (v := .ref sv_keep) (C := RX6) (T := TX6) (N := 4) hx hb hts inlX6 hown hK hP 0 rfl rfl 2 (by decide) (hts (Cond.fieldLink RX6 9 "ChanceRings$Solver" "keep" "[I") qw_587) (fun _ h9 => h9) rfl dX6_keepEven_72 ?_
                  refine lv_iload_n hx hb dX6_keepEven_75 rfl (lv_at hl 1 rfl) ?_
                  refine lv_dup2_11 hx hb dX6_keepEven_76 rfl rfl ?_
                  refine va_iald hx hb hK hP 9 0 rfl rfl (tr_in h_87219 (by decide) (by decide)) dX6_keepEven_77 ?_
                  refine lv_topi (fun v_87342 v_87342_e => ?_)
                  refine lv_iconst (v := 1) hx hb dX6_keepEven_78 (by decide) ?_
                  refine lv_iload_n hx hb dX6_keepEven_79 rfl (lv_at hl 0 rfl) ?_
                  refine lv_ishl hx hb dX6_keepEven_80 ?_
                  refine lv_topi (fun v_87343 v_87343_e => ?_)
                  refine lv_ior hx hb dX6_keepEven_81 ?_
                  refine lv_topi (fun v_87344 v_87344_e => ?_)
                  refine va_iast hx hb hK hP hD hS 9 0 rfl rfl (tr_in h_87219 (by decide) (by decide)) dX6_keepEven_82 (fun H locs hP hD hS => ?_)
                  obtain ⟨f_87345, hP, hD⟩ : ∃ FX : Nat → Int32, va_P D vwCl [(wO6 sv n co sv_keep sv_scaled), (wO2 n n_nodes n_kind n_pay n_name n_ways n_held n_targets n_weights), (wI g n_kind 0 12 n_fkind), (wI g n_pay 0 12 n_fpay), (wI g n_ways 0 12 n_fways), (wI g n_held 0 12 n_fheld), (wI g n_targets 0 36 n_ftargets), (wO10 vs vs_part vsw), (wJ g vs_part 1 12 vsp), (wI g sv_keep 0 12 FX)] H ∧ va_D A [(wO6 sv n co sv_keep sv_scaled), (wO2 n n_nodes n_kind n_pay n_name n_ways n_held n_targets n_weights), (wI g n_kind 0 12 n_fkind), (wI g n_pay 0 12 n_fpay), (wI g n_ways 0 12 n_fways), (wI g n_held 0 12 n_fheld), (wI g n_targets 0 36 n_ftargets), (wO10 vs vs_part vsw), (wJ g vs_part 1 12 vsp), (wI g sv_keep 0 12 FX)] := ⟨_, hP, hD⟩
                  have hP : va_P D vwCl [(wO6 sv n co sv_keep sv_scaled), (wO2 n n_nodes n_kind n_pay n_name n_ways n_held n_targets n_weights), (wI g n_kind 0 12 n_fkind), (wI g n_pay 0 12 n_fpay), (wI g n_ways 0 12 n_fways), (wI g n_held 0 12 n_fheld), (wI g n_targets 0 36 n_ftargets), (wO10 vs vs_part vsw), (wJ g vs_part 1 12 vsp), (wI g sv_keep 0 12 f_87345)] H := hP
                  have hD : va_D A [(wO6 sv n co sv_keep sv_scaled), (wO2 n n_nodes n_kind n_pay n_name n_ways n_held n_targets n_weights), (wI g n_kind 0 12 n_fkind), (wI g n_pay 0 12 n_fpay), (wI g n_ways 0 12 n_fways), (wI g n_held 0 12 n_fheld), (wI g n_targets 0 36 n_ftargets), (wO10 vs vs_part vsw), (wJ g vs_part 1 12 vsp), (wI g sv_keep 0 12 f_87345)] := hD
                  obtain ⟨v_87346, v_87346_e⟩ : ∃ y : Int32, y = x_87320 + Int32.ofInt 1 := ⟨_, rfl⟩
                  have h_v_87346 : 1 ≤ (v_87346 : Int32).toInt ∧ (v_87346 : Int32).toInt ≤ 3 := by rw [v_87346_e]; exact tr_add h_87325 (⟨by decide, by decide⟩ : 1 ≤ (Int32.ofInt 1 : Int32).toInt ∧ (Int32.ofInt 1 : Int32).toInt ≤ 1) (by decide) (by decide) (by decide) (by decide)
                  have q_v_87346 : v_87346.toInt = x_87320.toInt + 1 := by rw [v_87346_e]; exact tr_addE h_87325 (⟨by decide, by decide⟩ : 1 ≤ (Int32.ofInt 1 : Int32).toInt ∧ (Int32.ofInt 1 : Int32).toInt ≤ 1) (by decide) (by decide)
                  refine lv_iinc (v := v_87346) (lv' := [(3, .int v_87346), (2, .int x_87215), (0, .ref sv), (1, .ref vs)]) hx hb dX6_keepEven_83 hl (k := 0) rfl v_87346_e.symm (by decide) rfl (fun ls hl => ?_)
                  refine lv_goto (tgt := 22) hx hb dX6_keepEven_86 (by decide) ?_
                  exact ih_87322 v_87346 f_87345 H _ ls (tr_w h_v_87346 (by decide) (by decide)) (by (first | (clear h_n_nodes h_x_87215 c_87218_i h_87219 h_87220 hw_87329 c_87330_i h_87332 hw_87335 h_v_87338 c_87339_i h_87340; omega) | omega)) (hP.sub [0, 1, 2, 3, 4, 5, 6, 7, 8, 9] rfl) (hD.sub [0, 1, 2, 3, 4, 5, 6, 7, 8, 9] (by decide) rfl) hS (lv_sub hl [0, 1, 2, 3] rfl)
        exact lp_87322 4 0 f_87221 H _ ls (⟨by decide, by decide⟩ : 0 ≤ (0 : Int32).toInt ∧ (0 : Int32).toInt ≤ 3) (by decide) (hP.sub [0, 1, 2, 3, 4, 5, 6, 7, 8, 9] rfl) (hD.sub [0, 1, 2, 3, 4, 5, 6, 7, 8, 9] (by decide) rfl) hS (lv_sub hl [0, 1, 2, 3] rfl)
  exact lp_87217 13 0 kpf s.heap _ ls (⟨by decide, by decide⟩ : 0 ≤ (0 : Int32).toInt ∧ (0 : Int32).toInt ≤ 12) (by decide) (hP.sub [0, 1, 2, 3, 4, 5, 6, 7, 8, 9] rfl) (hD.sub [0, 1, 2, 3, 4, 5, 6, 7, 8, 9] (by decide) rfl) hS (lv_sub hl [0, 1, 2] rfl)
set_option maxHeartbeats 4000000 in
set_option maxRecDepth 100000 in
theorem c_X6_isBrought (l : Launch) (D : va_G) (g : Nat → ClassId) (sv : Nat) (p0 : Int32) (p1 : Int32) (vs : Nat) (n : Nat) (co : Nat) (sv_keep : Nat) (sv_scaled : Nat) (n_nodes : Int32) (n_kind : Nat) (n_pay : Nat) (n_name : Nat) (n_ways : Nat) (n_held : Nat) (n_targets : Nat) (n_weights : Nat) (n_fkind : Nat → Int32) (n_fpay : Nat → Int32) (n_fways : Nat → Int32) (n_fheld : Nat → Int32) (n_ftargets : Nat → Int32) (vs_part : Nat) (vsw : Int64) (vsp : Nat → Int64) (kpf : Nat → Int32) (h_p0 : 0 ≤ (p0 : Int32).toInt ∧ (p0 : Int32).toInt ≤ 11) (h_n_nodes : 0 ≤ (n_nodes : Int32).toInt ∧ (n_nodes : Int32).toInt ≤ 12) (h_n_fkind : ∀ j : Nat, 0 ≤ (n_fkind j).toInt ∧ (n_fkind j).toInt ≤ 3) (h_n_fways : ∀ j : Nat, 0 ≤ (n_fways j).toInt ∧ (n_fways j).toInt ≤ 3) (h_n_fheld : ∀ j : Nat, (-1) ≤ (n_fheld j).toInt ∧ (n_fheld j).toInt ≤ 2) (h_n_ftargets : ∀ j : Nat, 0 ≤ (n_ftargets j).toInt ∧ (n_ftargets j).toInt ≤ 11) : Met l yX6_isBrought (.code yX6_isBrought cX6_isBrought 9 (some .boolean) :: wsL_law) ({ frames := 1, cells := 0, slots := 0, locals := 22 }) (va_Pc [.ref sv, .int p0, .int p1, .ref vs] (fun U => va_P D vwCl [(wO6 sv n co sv_keep sv_scaled), (wO2 n n_nodes n_kind n_pay n_name n_ways n_held n_targets n_weights), (wI g n_kind 0 12 n_fkind), (wI g n_pay 0 12 n_fpay), (wI g n_ways 0 12 n_fways), (wI g n_held 0 12 n_fheld), (wI g n_targets 0 36 n_ftargets), (wO10 vs vs_part vsw), (wJ g vs_part 1 12 vsp), (wI g sv_keep 0 12 kpf)] U.heap ∧ va_K D vwCl (TY g) U)) (vp_Si (fun r => 0 ≤ (r : Int32).toInt ∧ (r : Int32).toInt ≤ 1)) 0 0 (fun _ => False) := by
  refine Met.ofW (cc := cX6_isBrought) (maxL := 9) (ret := (some .boolean)) (by decide) rfl ?_
  intro p e s m args below meth c s₁ B hml hv
  obtain ⟨ha, hP, hK⟩ := hv
  have hx := B.exec
  have hb := B.bytes
  have hr := B.returns
  have hts0 := atoms_spec (ws := (.code yX6_isBrought cX6_isBrought 9 (some .boolean) :: wsL_law)) B.pre
  have hts : ∀ w ∈ wsL_law, w.before args s = true := fun w h => hts0 w (List.mem_cons_of_mem _ h)
  have hown : s.vm.findClass RX6 = some m.cls := findClass_of_methodNamed B.named
  have hlocks := B.notSynchronized
  have hP : va_P D vwCl [(wO6 sv n co sv_keep sv_scaled), (wO2 n n_nodes n_kind n_pay n_name n_ways n_held n_targets n_weights), (wI g n_kind 0 12 n_fkind), (wI g n_pay 0 12 n_fpay), (wI g n_ways 0 12 n_fways), (wI g n_held 0 12 n_fheld), (wI g n_targets 0 36 n_ftargets), (wO10 vs vs_part vsw), (wJ g vs_part 1 12 vsp), (wI g sv_keep 0 12 kpf)] s.heap := hP
  refine W.eq (g2 := entryFrame m ([.ref sv, .int p0, .int p1, .ref vs] : List Value).toArray 9) (by rw [ha]) ?_
  have hl := lv_entry ([.ref sv, .int p0, .int p1, .ref vs]) (n := 9) (Nat.le_of_ble_eq_true rfl)
  rw [lg_entry_eq]
  generalize (lg_sl ([.ref sv, .int p0, .int p1, .ref vs]) ++ List.replicate (9 - (lg_sl ([.ref sv, .int p0, .int p1, .ref vs])).length) Slot.unset).toArray = ls at hl ⊢
  have hl : lv_has ls 9 [(0, .ref sv), (1, .int p0), (2, .int p1), (3, .ref vs)] := hl
  refine lv_iconst (v := 0) hx hb dX6_isBrought_0 (by decide) ?_
  refine lv_istore (lv' := [(4, .int 0), (0, .ref sv), (1, .int p0), (2, .int p1), (3, .ref vs)]) hx hb dX6_isBrought_1 hl (by decide) rfl (fun ls hl => ?_)
  refine lv_iconst (v := 1) hx hb dX6_isBrought_3 (by decide) ?_
  refine lv_istore (lv' := [(5, .int 1), (4, .int 0), (0, .ref sv), (1, .int p0), (2, .int p1), (3, .ref vs)]) hx hb dX6_isBrought_4 hl (by decide) rfl (fun ls hl => ?_)
  refine lv_iconst (v := 0) hx hb dX6_isBrought_6 (by decide) ?_
  refine lv_istore (lv' := [(6, .int 0), (5, .int 1), (4, .int 0), (0, .ref sv), (1, .int p0), (2, .int p1), (3, .ref vs)]) hx hb dX6_isBrought_7 hl (by decide) rfl (fun ls hl => ?_)
  have lp_87563 : ∀ (n_87563 : Nat) (x_87560 : Int32) (x_87561 : Int32) (x_87562 : Int32) (ls : Array Slot), (0 ≤ (x_87560 : Int32).toInt ∧ (x_87560 : Int32).toInt ≤ 3) → (0 ≤ (x_87561 : Int32).toInt ∧ (x_87561 : Int32).toInt ≤ 1) → (0 ≤ (x_87562 : Int32).toInt ∧ (x_87562 : Int32).toInt ≤ 1) → (3 - x_87560.toInt < (n_87563 : Int)) → lv_has ls 9 [(6, .int x_87560), (5, .int x_87561), (4, .int x_87562), (0, .ref sv), (1, .int p0), (2, .int p1), (3, .ref vs)] → W p l e (headSpec (.code yX6_isBrought cX6_isBrought 9 (some .boolean) :: wsL_law) ({ frames := 1, cells := 0, slots := 0, locals := 22 })).room s m args below meth c s.heap [] 0 0 (MQ below (vp_Si (fun r => 0 ≤ (r : Int32).toInt ∧ (r : Int32).toInt ≤ 1)) args s 0 0 (fun _ => False)) (F0 m 9 ls []) := by
    intro n_87563
    induction n_87563 with
    | zero =>
      intro x_87560 x_87561 x_87562 ls h_x_87560 h_x_87561 h_x_87562 hm_87563 hl
      exfalso; omega
    | succ n_87563 ih_87563 =>
      intro x_87560 x_87561 x_87562 ls h_x_87560 h_x_87561 h_x_87562 hm_87563 hl
      refine lv_iload hx hb dX6_isBrought_9 (lv_at hl 0 rfl) ?_
      refine lv_aload_n hx hb dX6_isBrought_11 rfl (lv_at hl 3 rfl) ?_
      refine va_get (D := D) (ci := 6) (v := .ref n) (C := RX6) (T := TX6) (N := 4) hx hb hts inlX6 hown hK hP 0 rfl rfl 0 (by decide) (hts (Cond.fieldLink RX6 19 "ChanceRings$Solver" "net" "LChanceRings$Net;") qw_548) (fun _ h9 => h9) rfl dX6_isBrought_12 ?_
      refine va_get (D := D) (ci := 2) (v := .ref n_ways) (C := RX2) (T := TX2) (N := 8) hx hb hts inlX2 hown hK hP 1 rfl rfl 4 (by decide) (hts (Cond.fieldLink RX6 68 "ChanceRings$Net" "ways" "[I") qw_552) (fun _ h9 => h9) rfl dX6_isBrought_15 ?_
      refine lv_iload_n hx hb dX6_isBrought_18 rfl (lv_at hl 4 rfl) ?_
      refine va_iald hx hb hK hP 4 0 rfl rfl (tr_in h_p0 (by decide) (by decide)) dX6_isBrought_19 ?_
      refine lv_topi (fun v_87564 v_87564_e => ?_)
      have h_v_87564 : 0 ≤ (v_87564 : Int32).toInt ∧ (v_87564 : Int32).toInt ≤ 3 := by rw [v_87564_e]; exact h_n_fways _
      refine lv_icmp_ge (tgt := 133) hx hb dX6_isBrought_20 (by decide) (fun c_87565 => ?_) (fun c_87565 => ?_)
      · skip
        refine lv_aload_n hx hb dX6_isBrought_133 rfl (lv_at hl 3 rfl) ?_
        refine va_get (D := D) (ci := 6) (v := .ref n) (C := RX6) (T := TX6) (N := 4) hx hb hts inlX6 hown hK hP 0 rfl rfl 0 (by decide) (hts (Cond.fieldLink RX6 19 "ChanceRings$Solver" "net" "LChanceRings$Net;") qw_548) (fun _ h9 => h9) rfl dX6_isBrought_134 ?_
        refine va_get (D := D) (ci := 2) (v := .ref n_kind) (C := RX2) (T := TX2) (N := 8) hx hb hts inlX2 hown hK hP 1 rfl rfl 1 (by decide) (hts (Cond.fieldLink RX6 61 "ChanceRings$Net" "kind" "[I") qw_551) (fun _ h9 => h9) rfl dX6_isBrought_137 ?_
        refine lv_iload_n hx hb dX6_isBrought_140 rfl (lv_at hl 4 rfl) ?_
        refine va_iald hx hb hK hP 2 0 rfl rfl (tr_in h_p0 (by decide) (by decide)) dX6_isBrought_141 ?_
        refine lv_topi (fun v_87568 v_87568_e => ?_)
        have h_v_87568 : 0 ≤ (v_87568 : Int32).toInt ∧ (v_87568 : Int32).toInt ≤ 3 := by rw [v_87568_e]; exact h_n_fkind _
        refine lv_iconst (v := 2) hx hb dX6_isBrought_142 (by decide) ?_
        refine lv_icmp_ne (tgt := 164) hx hb dX6_isBrought_143 (by decide) (fun c_87569 => ?_) (fun c_87569 => ?_)
        · skip
          refine lv_iload hx hb dX6_isBrought_164 (lv_at hl 2 rfl) ?_
          exact W.zret (v := x_87562) hx hb hr (tr_z (tr_w h_x_87562 (by decide) (by decide))) (fun t ht hW => ⟨x_87562, rfl, (tr_w h_x_87562 (by decide) (by decide)), ht⟩) (fun _ h => nomatch h) dX6_isBrought_166
        · skip
          have c_87569_i : (v_87568 : Int32).toInt = (2 : Int32).toInt := congrArg Int32.toInt c_87569
          have h_87570 : 2 ≤ (v_87568 : Int32).toInt ∧ (v_87568 : Int32).toInt ≤ 2 := nr_eq_l h_v_87568 (⟨by decide, by decide⟩ : 2 ≤ (2 : Int32).toInt ∧ (2 : Int32).toInt ≤ 2) c_87569_i (by decide) (by decide)
          refine lv_iload hx hb dX6_isBrought_146 (lv_at hl 2 rfl) ?_
          refine lv_if_eq (tgt := 160) hx hb dX6_isBrought_148 (by decide) (fun c_87571 => ?_) (fun c_87571 => ?_)
          · skip
            have c_87571_i : (x_87562 : Int32).toInt = (0 : Int32).toInt := congrArg Int32.toInt c_87571
            have h_87572 : 0 ≤ (x_87562 : Int32).toInt ∧ (x_87562 : Int32).toInt ≤ 0 := nr_eq_l h_x_87562 (⟨by decide, by decide⟩ : 0 ≤ (0 : Int32).toInt ∧ (0 : Int32).toInt ≤ 0) c_87571_i (by decide) (by decide)
            refine lv_iconst (v := 0) hx hb dX6_isBrought_160 (by decide) ?_
            refine lv_goto (tgt := 166) hx hb dX6_isBrought_161 (by decide) ?_
            exact W.zret (v := 0) hx hb hr (by decide) (fun t ht hW => ⟨0, rfl, (⟨by decide, by decide⟩ : 0 ≤ (0 : Int32).toInt ∧ (0 : Int32).toInt ≤ 1), ht⟩) (fun _ h => nomatch h) dX6_isBrought_166
          · skip
            have c_87571_i : ¬ (x_87562 : Int32).toInt = (0 : Int32).toInt := (fun q => c_87571 (Int32.toInt_inj.mp q))
            have h_87573 : 1 ≤ (x_87562 : Int32).toInt ∧ (x_87562 : Int32).toInt ≤ 1 := nr_ne_l h_x_87562 (⟨by decide, by decide⟩ : 0 ≤ (0 : Int32).toInt ∧ (0 : Int32).toInt ≤ 0) c_87571_i (by decide) (by decide)
            refine lv_iload hx hb dX6_isBrought_151 (lv_at hl 1 rfl) ?_
            refine lv_if_eq (tgt := 160) hx hb dX6_isBrought_153 (by decide) (fun c_87574 => ?_) (fun c_87574 => ?_)
            · skip
              have c_87574_i : (x_87561 : Int32).toInt = (0 : Int32).toInt := congrArg Int32.toInt c_87574
              have h_87575 : 0 ≤ (x_87561 : Int32).toInt ∧ (x_87561 : Int32).toInt ≤ 0 := nr_eq_l h_x_87561 (⟨by decide, by decide⟩ : 0 ≤ (0 : Int32).toInt ∧ (0 : Int32).toInt ≤ 0) c_87574_i (by decide) (by decide)
              refine lv_iconst (v := 0) hx hb dX6_isBrought_160 (by decide) ?_
              refine lv_goto (tgt := 166) hx hb dX6_isBrought_161 (by decide) ?_
              exact W.zret (v := 0) hx hb hr (by decide) (fun t ht hW => ⟨0, rfl, (⟨by decide, by decide⟩ : 0 ≤ (0 : Int32).toInt ∧ (0 : Int32).toInt ≤ 1), ht⟩) (fun _ h => nomatch h) dX6_isBrought_166
            · skip
              have c_87574_i : ¬ (x_87561 : Int32).toInt = (0 : Int32).toInt := (fun q => c_87574 (Int32.toInt_inj.mp q))
              have h_87576 : 1 ≤ (x_87561 : Int32).toInt ∧ (x_87561 : Int32).toInt ≤ 1 := nr_ne_l h_x_87561 (⟨by decide, by decide⟩ : 0 ≤ (0 : Int32).toInt ∧ (0 : Int32).toInt ≤ 0) c_87574_i (by decide) (by decide)
              refine lv_iconst (v := 1) hx hb dX6_isBrought_156 (by decide) ?_
              refine lv_goto (tgt := 166) hx hb dX6_isBrought_157 (by decide) ?_
              exact W.zret (v := 1) hx hb hr (by decide) (fun t ht hW => ⟨1, rfl, (⟨by decide, by decide⟩ : 0 ≤ (1 : Int32).toInt ∧ (1 : Int32).toInt ≤ 1), ht⟩) (fun _ h => nomatch h) dX6_isBrought_166
      · skip
        have c_87565_i := Int32.lt_iff_toInt_lt.mp (Int32.not_le.mp c_87565)
        have h_87566 : 0 ≤ (x_87560 : Int32).toInt ∧ (x_87560 : Int32).toInt ≤ 2 := nr_lt_l h_x_87560 h_v_87564 c_87565_i (by decide) (by decide)
        have h_87567 : 1 ≤ (v_87564 : Int32).toInt ∧ (v_87564 : Int32).toInt ≤ 3 := nr_lt_r h_x_87560 h_v_87564 c_87565_i (by decide) (by decide)
        refine lv_aload_n hx hb dX6_isBrought_23 rfl (lv_at hl 3 rfl) ?_
        refine va_get (D := D) (ci := 6) (v := .ref n) (C := RX6) (T := TX6) (N := 4) hx hb hts inlX6 hown hK hP 0 rfl rfl 0 (by decide) (hts (Cond.fieldLink RX6 19 "ChanceRings$Solver" "net" "LChanceRings$Net;") qw_548) (fun _ h9 => h9) rfl dX6_isBrought_24 ?_
        refine lv_iload_n hx hb dX6_isBrought_27 rfl (lv_at hl 4 rfl) ?_
        refine lv_iload hx hb dX6_isBrought_28 (lv_at hl 0 rfl) ?_
        have hPc := hP.sub (ws' := [(wO2 n n_nodes n_kind n_pay n_name n_ways n_held n_targets n_weights), (wI g n_targets 0 36 n_ftargets)]) [1, 6] rfl
        refine vp_callSi (va_Run.run (va_runV (As := [.int p0, .int x_87560]) (rest := []) ⟨hx, hb, hml, hown, hts⟩ (c_X2_target l D g n p0 x_87560 n_nodes n_kind n_pay n_name n_ways n_held n_targets n_weights n_ftargets (tr_w h_p0 (by decide) (by decide)) (tr_w h_87566 (by decide) (by decide)) (tr_w h_n_nodes (by decide) (by decide)) (tr_wa h_n_ftargets (by decide) (by decide))) (cwV 2 hts (tz_gV qw_554 qw_325 qw_326 qw_322 qw_327) rfl rfl rfl (by decide +kernel) ⟨Nat.le_of_ble_eq_true rfl, Nat.le_of_ble_eq_true rfl⟩) ⟨tz_blS, va_recv hK hPc (ci := 2) (q0 := 0) rfl rfl, tz_preS hPc hK⟩ rfl rfl hl.1 rfl (lv_room (Nat.le_of_ble_eq_true rfl)) dX6_isBrought_30 ⟨Nat.le_of_ble_eq_true rfl, Nat.le_of_ble_eq_true rfl⟩)) (fun r_87577 hw => ?_)
        have hw_87578 : 0 ≤ (r_87577 : Int32).toInt ∧ (r_87577 : Int32).toInt ≤ 11 := hw
        refine lv_istore (lv' := [(7, .int r_87577), (6, .int x_87560), (5, .int x_87561), (4, .int x_87562), (0, .ref sv), (1, .int p0), (2, .int p1), (3, .ref vs)]) hx hb dX6_isBrought_33 hl (by decide) rfl (fun ls hl => ?_)
        refine lv_iload_n hx hb dX6_isBrought_35 rfl (lv_at hl 6 rfl) ?_
        refine lv_iload hx hb dX6_isBrought_36 (lv_at hl 0 rfl) ?_
        refine lv_ishr hx hb dX6_isBrought_38 ?_
        refine lv_topi (fun v_87579 v_87579_e => ?_)
        refine lv_iconst (v := 1) hx hb dX6_isBrought_39 (by decide) ?_
        refine lv_iand hx hb dX6_isBrought_40 ?_
        refine lv_topi (fun v_87580 v_87580_e => ?_)
        refine lv_if_eq (tgt := 48) hx hb dX6_isBrought_41 (by decide) (fun c_87581 => ?_) (fun c_87581 => ?_)
        · skip
          have h_87582 : 0 ≤ (v_87580 : Int32).toInt ∧ (v_87580 : Int32).toInt ≤ 0 := by rw [c_87581]; exact ⟨by decide, by decide⟩
          refine lv_iconst (v := 0) hx hb dX6_isBrought_48 (by decide) ?_
          refine lv_istore (lv' := [(8, .int 0), (7, .int r_87577), (6, .int x_87560), (5, .int x_87561), (4, .int x_87562), (0, .ref sv), (1, .int p0), (2, .int p1), (3, .ref vs)]) hx hb dX6_isBrought_49 hl (by decide) rfl (fun ls hl => ?_)
          refine lv_aload_n hx hb dX6_isBrought_51 rfl (lv_at hl 5 rfl) ?_
          refine va_get (D := D) (ci := 6) (v := .ref n) (C := RX6) (T := TX6) (N := 4) hx hb hts inlX6 hown hK hP 0 rfl rfl 0 (by decide) (hts (Cond.fieldLink RX6 19 "ChanceRings$Solver" "net" "LChanceRings$Net;") qw_548) (fun _ h9 => h9) rfl dX6_isBrought_52 ?_
          refine va_get (D := D) (ci := 2) (v := .ref n_kind) (C := RX2) (T := TX2) (N := 8) hx hb hts inlX2 hown hK hP 1 rfl rfl 1 (by decide) (hts (Cond.fieldLink RX6 61 "ChanceRings$Net" "kind" "[I") qw_551) (fun _ h9 => h9) rfl dX6_isBrought_55 ?_
          refine lv_iload_n hx hb dX6_isBrought_58 rfl (lv_at hl 6 rfl) ?_
          refine va_iald hx hb hK hP 2 0 rfl rfl (tr_in h_p0 (by decide) (by decide)) dX6_isBrought_59 ?_
          refine lv_topi (fun v_87583 v_87583_e => ?_)
          have h_v_87583 : 0 ≤ (v_87583 : Int32).toInt ∧ (v_87583 : Int32).toInt ≤ 3 := by rw [v_87583_e]; exact h_n_fkind _
          refine lv_iconst (v := 3) hx hb dX6_isBrought_60 (by decide) ?_
          refine lv_icmp_ne (tgt := 99) hx hb dX6_isBrought_61 (by decide) (fun c_87584 => ?_) (fun c_87584 => ?_)
          · skip
            have c_87584_i : ¬ (v_87583 : Int32).toInt = (3 : Int32).toInt := (fun q => c_87584 (Int32.toInt_inj.mp q))
            have h_87585 : 0 ≤ (v_87583 : Int32).toInt ∧ (v_87583 : Int32).toInt ≤ 2 := nr_ne_l h_v_87583 (⟨by decide, by decide⟩ : 3 ≤ (3 : Int32).toInt ∧ (3 : Int32).toInt ≤ 3) c_87584_i (by decide) (by decide)
            refine lv_aload_n hx hb dX6_isBrought_99 rfl (lv_at hl 5 rfl) ?_
            refine va_get (D := D) (ci := 6) (v := .ref sv_keep) (C := RX6) (T := TX6) (N := 4) hx hb hts inlX6 hown hK hP 0 rfl rfl 2 (by decide) (hts (Cond.fieldLink RX6 9 "ChanceRings$Solver" "keep" "[I") qw_587) (fun _ h9 => h9) rfl dX6_isBrought_100 ?_
            refine lv_iload_n hx hb dX6_isBrought_103 rfl (lv_at hl 6 rfl) ?_
            refine va_iald hx hb hK hP 9 0 rfl rfl (tr_in h_p0 (by decide) (by decide)) dX6_isBrought_104 ?_
            refine lv_topi (fun v_87587 v_87587_e => ?_)
            refine lv_iload hx hb dX6_isBrought_105 (lv_at hl 2 rfl) ?_
            refine lv_ishr hx hb dX6_isBrought_107 ?_
            refine lv_topi (fun v_87588 v_87588_e => ?_)
            refine lv_iconst (v := 1) hx hb dX6_isBrought_108 (by decide) ?_
            refine lv_iand hx hb dX6_isBrought_109 ?_
            refine lv_topi (fun v_87589 v_87589_e => ?_)
            refine lv_if_eq (tgt := 127) hx hb dX6_isBrought_110 (by decide) (fun c_87590 => ?_) (fun c_87590 => ?_)
            · skip
              have h_87591 : 0 ≤ (v_87589 : Int32).toInt ∧ (v_87589 : Int32).toInt ≤ 0 := by rw [c_87590]; exact ⟨by decide, by decide⟩
              obtain ⟨v_87592, v_87592_e⟩ : ∃ y : Int32, y = x_87560 + Int32.ofInt 1 := ⟨_, rfl⟩
              have h_v_87592 : 1 ≤ (v_87592 : Int32).toInt ∧ (v_87592 : Int32).toInt ≤ 3 := by rw [v_87592_e]; exact tr_add h_87566 (⟨by decide, by decide⟩ : 1 ≤ (Int32.ofInt 1 : Int32).toInt ∧ (Int32.ofInt 1 : Int32).toInt ≤ 1) (by decide) (by decide) (by decide) (by decide)
              have q_v_87592 : v_87592.toInt = x_87560.toInt + 1 := by rw [v_87592_e]; exact tr_addE h_87566 (⟨by decide, by decide⟩ : 1 ≤ (Int32.ofInt 1 : Int32).toInt ∧ (Int32.ofInt 1 : Int32).toInt ≤ 1) (by decide) (by decide)
              refine lv_iinc (v := v_87592) (lv' := [(6, .int v_87592), (8, .int 0), (7, .int r_87577), (5, .int x_87561), (4, .int x_87562), (0, .ref sv), (1, .int p0), (2, .int p1), (3, .ref vs)]) hx hb dX6_isBrought_127 hl (k := 2) rfl v_87592_e.symm (by decide) rfl (fun ls hl => ?_)
              refine lv_goto (tgt := 9) hx hb dX6_isBrought_130 (by decide) ?_
              exact ih_87563 v_87592 x_87561 x_87562 ls (tr_w h_v_87592 (by decide) (by decide)) (tr_w h_x_87561 (by decide) (by decide)) (tr_w h_x_87562 (by decide) (by decide)) (by (first | (clear h_p0 h_n_nodes hw_87578 h_87582 h_v_87583 c_87584_i h_87585 h_87591; omega) | omega)) (lv_sub hl [0, 3, 4, 5, 6, 7, 8] rfl)
            · skip
              refine lv_iload hx hb dX6_isBrought_113 (lv_at hl 4 rfl) ?_
              refine lv_iload hx hb dX6_isBrought_115 (lv_at hl 0 rfl) ?_
              refine lv_ior hx hb dX6_isBrought_117 ?_
              refine lv_topi (fun v_87593 v_87593_e => ?_)
              have h_v_87593 : 0 ≤ (v_87593 : Int32).toInt ∧ (v_87593 : Int32).toInt ≤ 1 := by rw [v_87593_e]; exact tr_or01 (tr_w h_x_87562 (by decide) (by decide)) (⟨by decide, by decide⟩ : 0 ≤ (0 : Int32).toInt ∧ (0 : Int32).toInt ≤ 1)
              refine lv_istore (lv' := [(4, .int v_87593), (8, .int 0), (7, .int r_87577), (6, .int x_87560), (5, .int x_87561), (0, .ref sv), (1, .int p0), (2, .int p1), (3, .ref vs)]) hx hb dX6_isBrought_118 hl (by decide) rfl (fun ls hl => ?_)
              refine lv_iload hx hb dX6_isBrought_120 (lv_at hl 4 rfl) ?_
              refine lv_iload hx hb dX6_isBrought_122 (lv_at hl 1 rfl) ?_
              refine lv_iand hx hb dX6_isBrought_124 ?_
              refine lv_topi (fun v_87594 v_87594_e => ?_)
              have h_v_87594 : 0 ≤ (v_87594 : Int32).toInt ∧ (v_87594 : Int32).toInt ≤ 1 := by rw [v_87594_e]; exact tr_and01 (tr_w h_x_87561 (by decide) (by decide)) (⟨by decide, by decide⟩ : 0 ≤ (0 : Int32).toInt ∧ (0 : Int32).toInt ≤ 1)
              refine lv_istore (lv' := [(5, .int v_87594), (4, .int v_87593), (8, .int 0), (7, .int r_87577), (6, .int x_87560), (0, .ref sv), (1, .int p0), (2, .int p1), (3, .ref vs)]) hx hb dX6_isBrought_125 hl (by decide) rfl (fun ls hl => ?_)
              obtain ⟨v_87595, v_87595_e⟩ : ∃ y : Int32, y = x_87560 + Int32.ofInt 1 := ⟨_, rfl⟩
              have h_v_87595 : 1 ≤ (v_87595 : Int32).toInt ∧ (v_87595 : Int32).toInt ≤ 3 := by rw [v_87595_e]; exact tr_add h_87566 (⟨by decide, by decide⟩ : 1 ≤ (Int32.ofInt 1 : Int32).toInt ∧ (Int32.ofInt 1 : Int32).toInt ≤ 1) (by decide) (by decide) (by decide) (by decide)
              have q_v_87595 : v_87595.toInt = x_87560.toInt + 1 := by rw [v_87595_e]; exact tr_addE h_87566 (⟨by decide, by decide⟩ : 1 ≤ (Int32.ofInt 1 : Int32).toInt ∧ (Int32.ofInt 1 : Int32).toInt ≤ 1) (by decide) (by decide)
              refine lv_iinc (v := v_87595) (lv' := [(6, .int v_87595), (5, .int v_87594), (4, .int v_87593), (8, .int 0), (7, .int r_87577), (0, .ref sv), (1, .int p0), (2, .int p1), (3, .ref vs)]) hx hb dX6_isBrought_127 hl (k := 4) rfl v_87595_e.symm (by decide) rfl (fun ls hl => ?_)
              refine lv_goto (tgt := 9) hx hb dX6_isBrought_130 (by decide) ?_
              exact ih_87563 v_87595 v_87594 v_87593 ls (tr_w h_v_87595 (by decide) (by decide)) (tr_w h_v_87594 (by decide) (by decide)) (tr_w h_v_87593 (by decide) (by decide)) (by (first | (clear h_p0 h_n_nodes h_x_87561 h_x_87562 hw_87578 h_87582 h_v_87583 c_87584_i h_87585; omega) | omega)) (lv_sub hl [0, 1, 2, 5, 6, 7, 8] rfl)
          · skip
            have c_87584_i : (v_87583 : Int32).toInt = (3 : Int32).toInt := congrArg Int32.toInt c_87584
            have h_87586 : 3 ≤ (v_87583 : Int32).toInt ∧ (v_87583 : Int32).toInt ≤ 3 := nr_eq_l h_v_87583 (⟨by decide, by decide⟩ : 3 ≤ (3 : Int32).toInt ∧ (3 : Int32).toInt ≤ 3) c_87584_i (by decide) (by decide)
            refine lv_iload hx hb dX6_isBrought_64 (lv_at hl 4 rfl) ?_
            refine lv_iload hx hb dX6_isBrought_66 (lv_at hl 0 rfl) ?_
            refine lv_if_ne (tgt := 88) hx hb dX6_isBrought_68 (by decide) (fun h9 => (h9 (by decide)).elim) (fun _ => ?_)
            refine lv_aload_n hx hb dX6_isBrought_71 rfl (lv_at hl 8 rfl) ?_
            refine va_get (D := D) (ci := 10) (v := .ref vs_part) (C := RX10) (T := TX10) (N := 2) hx hb hts inlX10 hown hK hP 7 rfl rfl 0 (by decide) (hts (Cond.fieldLink RX6 71 "ChanceRings$Values" "part" "[J") qw_553) (fun _ h9 => h9) rfl dX6_isBrought_72 ?_
            refine lv_iload hx hb dX6_isBrought_75 (lv_at hl 1 rfl) ?_
            refine va_lald hx hb hK hP 8 1 rfl rfl (tr_in hw_87578 (by decide) (by decide)) dX6_isBrought_77 ?_
            refine lv_topl (fun w_87596 _ => ?_)
            refine lv_aload_n hx hb dX6_isBrought_78 rfl (lv_at hl 8 rfl) ?_
            refine va_get (D := D) (ci := 10) (v := .ref vs_part) (C := RX10) (T := TX10) (N := 2) hx hb hts inlX10 hown hK hP 7 rfl rfl 0 (by decide) (hts (Cond.fieldLink RX6 71 "ChanceRings$Values" "part" "[J") qw_553) (fun _ h9 => h9) rfl dX6_isBrought_79 ?_
            refine lv_iload_n hx hb dX6_isBrought_82 rfl (lv_at hl 6 rfl) ?_
            refine va_lald hx hb hK hP 8 1 rfl rfl (tr_in h_p0 (by decide) (by decide)) dX6_isBrought_83 ?_
            refine lv_topl (fun w_87597 _ => ?_)
            refine W.lcmp hx hb dX6_isBrought_84 ?_
            refine lv_topi (fun v_87598 v_87598_e => ?_)
            have h_v_87598 : (-1) ≤ (v_87598 : Int32).toInt ∧ (v_87598 : Int32).toInt ≤ 1 := by rw [v_87598_e]; exact tr_cmp _ _
            refine lv_if_eq (tgt := 92) hx hb dX6_isBrought_85 (by decide) (fun c_87599 => ?_) (fun c_87599 => ?_)
            · skip
              have c_87599_i : (v_87598 : Int32).toInt = (0 : Int32).toInt := congrArg Int32.toInt c_87599
              have h_87600 : 0 ≤ (v_87598 : Int32).toInt ∧ (v_87598 : Int32).toInt ≤ 0 := nr_eq_l h_v_87598 (⟨by decide, by decide⟩ : 0 ≤ (0 : Int32).toInt ∧ (0 : Int32).toInt ≤ 0) c_87599_i (by decide) (by decide)
              refine lv_iconst (v := 0) hx hb dX6_isBrought_92 (by decide) ?_
              refine lv_ior hx hb dX6_isBrought_93 ?_
              refine lv_topi (fun v_87601 v_87601_e => ?_)
              have h_v_87601 : 0 ≤ (v_87601 : Int32).toInt ∧ (v_87601 : Int32).toInt ≤ 1 := by rw [v_87601_e]; exact tr_or01 (tr_w h_x_87562 (by decide) (by decide)) (⟨by decide, by decide⟩ : 0 ≤ (0 : Int32).toInt ∧ (0 : Int32).toInt ≤ 1)
              refine lv_istore (lv' := [(4, .int v_87601), (8, .int 0), (7, .int r_87577), (6, .int x_87560), (5, .int x_87561), (0, .ref sv), (1, .int p0), (2, .int p1), (3, .ref vs)]) hx hb dX6_isBrought_94 hl (by decide) rfl (fun ls hl => ?_)
              refine lv_goto (tgt := 127) hx hb dX6_isBrought_96 (by decide) ?_
              obtain ⟨v_87602, v_87602_e⟩ : ∃ y : Int32, y = x_87560 + Int32.ofInt 1 := ⟨_, rfl⟩
              have h_v_87602 : 1 ≤ (v_87602 : Int32).toInt ∧ (v_87602 : Int32).toInt ≤ 3 := by rw [v_87602_e]; exact tr_add h_87566 (⟨by decide, by decide⟩ : 1 ≤ (Int32.ofInt 1 : Int32).toInt ∧ (Int32.ofInt 1 : Int32).toInt ≤ 1) (by decide) (by decide) (by decide) (by decide)
              have q_v_87602 : v_87602.toInt = x_87560.toInt + 1 := by rw [v_87602_e]; exact tr_addE h_87566 (⟨by decide, by decide⟩ : 1 ≤ (Int32.ofInt 1 : Int32).toInt ∧ (Int32.ofInt 1 : Int32).toInt ≤ 1) (by decide) (by decide)
              refine lv_iinc (v := v_87602) (lv' := [(6, .int v_87602), (4, .int v_87601), (8, .int 0), (7, .int r_87577), (5, .int x_87561), (0, .ref sv), (1, .int p0), (2, .int p1), (3, .ref vs)]) hx hb dX6_isBrought_127 hl (k := 3) rfl v_87602_e.symm (by decide) rfl (fun ls hl => ?_)
              refine lv_goto (tgt := 9) hx hb dX6_isBrought_130 (by decide) ?_
              exact ih_87563 v_87602 x_87561 v_87601 ls (tr_w h_v_87602 (by decide) (by decide)) (tr_w h_x_87561 (by decide) (by decide)) (tr_w h_v_87601 (by decide) (by decide)) (by (first | (clear h_p0 h_n_nodes h_x_87562 hw_87578 h_87582 h_v_87583 c_87584_i h_87586 h_v_87598 c_87599_i h_87600; omega) | omega)) (lv_sub hl [0, 4, 1, 5, 6, 7, 8] rfl)
            · skip
              refine lv_iconst (v := 1) hx hb dX6_isBrought_88 (by decide) ?_
              refine lv_goto (tgt := 93) hx hb dX6_isBrought_89 (by decide) ?_
              refine lv_ior hx hb dX6_isBrought_93 ?_
              refine lv_topi (fun v_87603 v_87603_e => ?_)
              have h_v_87603 : 0 ≤ (v_87603 : Int32).toInt ∧ (v_87603 : Int32).toInt ≤ 1 := by rw [v_87603_e]; exact tr_or01 (tr_w h_x_87562 (by decide) (by decide)) (⟨by decide, by decide⟩ : 0 ≤ (1 : Int32).toInt ∧ (1 : Int32).toInt ≤ 1)
              refine lv_istore (lv' := [(4, .int v_87603), (8, .int 0), (7, .int r_87577), (6, .int x_87560), (5, .int x_87561), (0, .ref sv), (1, .int p0), (2, .int p1), (3, .ref vs)]) hx hb dX6_isBrought_94 hl (by decide) rfl (fun ls hl => ?_)
              refine lv_goto (tgt := 127) hx hb dX6_isBrought_96 (by decide) ?_
              obtain ⟨v_87604, v_87604_e⟩ : ∃ y : Int32, y = x_87560 + Int32.ofInt 1 := ⟨_, rfl⟩
              have h_v_87604 : 1 ≤ (v_87604 : Int32).toInt ∧ (v_87604 : Int32).toInt ≤ 3 := by rw [v_87604_e]; exact tr_add h_87566 (⟨by decide, by decide⟩ : 1 ≤ (Int32.ofInt 1 : Int32).toInt ∧ (Int32.ofInt 1 : Int32).toInt ≤ 1) (by decide) (by decide) (by decide) (by decide)
              have q_v_87604 : v_87604.toInt = x_87560.toInt + 1 := by rw [v_87604_e]; exact tr_addE h_87566 (⟨by decide, by decide⟩ : 1 ≤ (Int32.ofInt 1 : Int32).toInt ∧ (Int32.ofInt 1 : Int32).toInt ≤ 1) (by decide) (by decide)
              refine lv_iinc (v := v_87604) (lv' := [(6, .int v_87604), (4, .int v_87603), (8, .int 0), (7, .int r_87577), (5, .int x_87561), (0, .ref sv), (1, .int p0), (2, .int p1), (3, .ref vs)]) hx hb dX6_isBrought_127 hl (k := 3) rfl v_87604_e.symm (by decide) rfl (fun ls hl => ?_)
              refine lv_goto (tgt := 9) hx hb dX6_isBrought_130 (by decide) ?_
              exact ih_87563 v_87604 x_87561 v_87603 ls (tr_w h_v_87604 (by decide) (by decide)) (tr_w h_x_87561 (by decide) (by decide)) (tr_w h_v_87603 (by decide) (by decide)) (by (first | (clear h_p0 h_n_nodes h_x_87562 hw_87578 h_87582 h_v_87583 c_87584_i h_87586 h_v_87598; omega) | omega)) (lv_sub hl [0, 4, 1, 5, 6, 7, 8] rfl)
        · skip
          refine lv_iconst (v := 1) hx hb dX6_isBrought_44 (by decide) ?_
          refine lv_goto (tgt := 49) hx hb dX6_isBrought_45 (by decide) ?_
          refine lv_istore (lv' := [(8, .int 1), (7, .int r_87577), (6, .int x_87560), (5, .int x_87561), (4, .int x_87562), (0, .ref sv), (1, .int p0), (2, .int p1), (3, .ref vs)]) hx hb dX6_isBrought_49 hl (by decide) rfl (fun ls hl => ?_)
          refine lv_aload_n hx hb dX6_isBrought_51 rfl (lv_at hl 5 rfl) ?_
          refine va_get (D := D) (ci := 6) (v := .ref n) (C := RX6) (T := TX6) (N := 4) hx hb hts inlX6 hown hK hP 0 rfl rfl 0 (by decide) (hts (Cond.fieldLink RX6 19 "ChanceRings$Solver" "net" "LChanceRings$Net;") qw_548) (fun _ h9 => h9) rfl dX6_isBrought_52 ?_
          refine va_get (D := D) (ci := 2) (v := .ref n_kind) (C := RX2) (T := TX2) (N := 8) hx hb hts inlX2 hown hK hP 1 rfl rfl 1 (by decide) (hts (Cond.fieldLink RX6 61 "ChanceRings$Net" "kind" "[I") qw_551) (fun _ h9 => h9) rfl dX6_isBrought_55 ?_
          refine lv_iload_n hx hb dX6_isBrought_58 rfl (lv_at hl 6 rfl) ?_
          refine va_iald hx hb hK hP 2 0 rfl rfl (tr_in h_p0 (by decide) (by decide)) dX6_isBrought_59 ?_
          refine lv_topi (fun v_87605 v_87605_e => ?_)
          have h_v_87605 : 0 ≤ (v_87605 : Int32).toInt ∧ (v_87605 : Int32).toInt ≤ 3 := by rw [v_87605_e]; exact h_n_fkind _
          refine lv_iconst (v := 3) hx hb dX6_isBrought_60 (by decide) ?_
          refine lv_icmp_ne (tgt := 99) hx hb dX6_isBrought_61 (by decide) (fun c_87606 => ?_) (fun c_87606 => ?_)
          · skip
            have c_87606_i : ¬ (v_87605 : Int32).toInt = (3 : Int32).toInt := (fun q => c_87606 (Int32.toInt_inj.mp q))
            have h_87607 : 0 ≤ (v_87605 : Int32).toInt ∧ (v_87605 : Int32).toInt ≤ 2 := nr_ne_l h_v_87605 (⟨by decide, by decide⟩ : 3 ≤ (3 : Int32).toInt ∧ (3 : Int32).toInt ≤ 3) c_87606_i (by decide) (by decide)
            refine lv_aload_n hx hb dX6_isBrought_99 rfl (lv_at hl 5 rfl) ?_
            refine va_get (D := D) (ci := 6) (v := .ref sv_keep) (C := RX6) (T := TX6) (N := 4) hx hb hts inlX6 hown hK hP 0 rfl rfl 2 (by decide) (hts (Cond.fieldLink RX6 9 "ChanceRings$Solver" "keep" "[I") qw_587) (fun _ h9 => h9) rfl dX6_isBrought_100 ?_
            refine lv_iload_n hx hb dX6_isBrought_103 rfl (lv_at hl 6 rfl) ?_
            refine va_iald hx hb hK hP 9 0 rfl rfl (tr_in h_p0 (by decide) (by decide)) dX6_isBrought_104 ?_
            refine lv_topi (fun v_87609 v_87609_e => ?_)
            refine lv_iload hx hb dX6_isBrought_105 (lv_at hl 2 rfl) ?_
            refine lv_ishr hx hb dX6_isBrought_107 ?_
            refine lv_topi (fun v_87610 v_87610_e => ?_)
            refine lv_iconst (v := 1) hx hb dX6_isBrought_108 (by decide) ?_
            refine lv_iand hx hb dX6_isBrought_109 ?_
            refine lv_topi (fun v_87611 v_87611_e => ?_)
            refine lv_if_eq (tgt := 127) hx hb dX6_isBrought_110 (by decide) (fun c_87612 => ?_) (fun c_87612 => ?_)
            · skip
              have h_87613 : 0 ≤ (v_87611 : Int32).toInt ∧ (v_87611 : Int32).toInt ≤ 0 := by rw [c_87612]; exact ⟨by decide, by decide⟩
              obtain ⟨v_87614, v_87614_e⟩ : ∃ y : Int32, y = x_87560 + Int32.ofInt 1 := ⟨_, rfl⟩
              have h_v_87614 : 1 ≤ (v_87614 : Int32).toInt ∧ (v_87614 : Int32).toInt ≤ 3 := by rw [v_87614_e]; exact tr_add h_87566 (⟨by decide, by decide⟩ : 1 ≤ (Int32.ofInt 1 : Int32).toInt ∧ (Int32.ofInt 1 : Int32).toInt ≤ 1) (by decide) (by decide) (by decide) (by decide)
              have q_v_87614 : v_87614.toInt = x_87560.toInt + 1 := by rw [v_87614_e]; exact tr_addE h_87566 (⟨by decide, by decide⟩ : 1 ≤ (Int32.ofInt 1 : Int32).toInt ∧ (Int32.ofInt 1 : Int32).toInt ≤ 1) (by decide) (by decide)
              refine lv_iinc (v := v_87614) (lv' := [(6, .int v_87614), (8, .int 1), (7, .int r_87577), (5, .int x_87561), (4, .int x_87562), (0, .ref sv), (1, .int p0), (2, .int p1), (3, .ref vs)]) hx hb dX6_isBrought_127 hl (k := 2) rfl v_87614_e.symm (by decide) rfl (fun ls hl => ?_)
              refine lv_goto (tgt := 9) hx hb dX6_isBrought_130 (by decide) ?_
              exact ih_87563 v_87614 x_87561 x_87562 ls (tr_w h_v_87614 (by decide) (by decide)) (tr_w h_x_87561 (by decide) (by decide)) (tr_w h_x_87562 (by decide) (by decide)) (by (first | (clear h_p0 h_n_nodes hw_87578 h_v_87605 c_87606_i h_87607 h_87613; omega) | omega)) (lv_sub hl [0, 3, 4, 5, 6, 7, 8] rfl)
            · skip
              refine lv_iload hx hb dX6_isBrought_113 (lv_at hl 4 rfl) ?_
              refine lv_iload hx hb dX6_isBrought_115 (lv_at hl 0 rfl) ?_
              refine lv_ior hx hb dX6_isBrought_117 ?_
              refine lv_topi (fun v_87615 v_87615_e => ?_)
              have h_v_87615 : 0 ≤ (v_87615 : Int32).toInt ∧ (v_87615 : Int32).toInt ≤ 1 := by rw [v_87615_e]; exact tr_or01 (tr_w h_x_87562 (by decide) (by decide)) (⟨by decide, by decide⟩ : 0 ≤ (1 : Int32).toInt ∧ (1 : Int32).toInt ≤ 1)
              refine lv_istore (lv' := [(4, .int v_87615), (8, .int 1), (7, .int r_87577), (6, .int x_87560), (5, .int x_87561), (0, .ref sv), (1, .int p0), (2, .int p1), (3, .ref vs)]) hx hb dX6_isBrought_118 hl (by decide) rfl (fun ls hl => ?_)
              refine lv_iload hx hb dX6_isBrought_120 (lv_at hl 4 rfl) ?_
              refine lv_iload hx hb dX6_isBrought_122 (lv_at hl 1 rfl) ?_
              refine lv_iand hx hb dX6_isBrought_124 ?_
              refine lv_topi (fun v_87616 v_87616_e => ?_)
              have h_v_87616 : 0 ≤ (v_87616 : Int32).toInt ∧ (v_87616 : Int32).toInt ≤ 1 := by rw [v_87616_e]; exact tr_and01 (tr_w h_x_87561 (by decide) (by decide)) (⟨by decide, by decide⟩ : 0 ≤ (1 : Int32).toInt ∧ (1 : Int32).toInt ≤ 1)
              refine lv_istore (lv' := [(5, .int v_87616), (4, .int v_87615), (8, .int 1), (7, .int r_87577), (6, .int x_87560), (0, .ref sv), (1, .int p0), (2, .int p1), (3, .ref vs)]) hx hb dX6_isBrought_125 hl (by decide) rfl (fun ls hl => ?_)
              obtain ⟨v_87617, v_87617_e⟩ : ∃ y : Int32, y = x_87560 + Int32.ofInt 1 := ⟨_, rfl⟩
              have h_v_87617 : 1 ≤ (v_87617 : Int32).toInt ∧ (v_87617 : Int32).toInt ≤ 3 := by rw [v_87617_e]; exact tr_add h_87566 (⟨by decide, by decide⟩ : 1 ≤ (Int32.ofInt 1 : Int32).toInt ∧ (Int32.ofInt 1 : Int32).toInt ≤ 1) (by decide) (by decide) (by decide) (by decide)
              have q_v_87617 : v_87617.toInt = x_87560.toInt + 1 := by rw [v_87617_e]; exact tr_addE h_87566 (⟨by decide, by decide⟩ : 1 ≤ (Int32.ofInt 1 : Int32).toInt ∧ (Int32.ofInt 1 : Int32).toInt ≤ 1) (by decide) (by decide)
              refine lv_iinc (v := v_87617) (lv' := [(6, .int v_87617), (5, .int v_87616), (4, .int v_87615), (8, .int 1), (7, .int r_87577), (0, .ref sv), (1, .int p0), (2, .int p1), (3, .ref vs)]) hx hb dX6_isBrought_127 hl (k := 4) rfl v_87617_e.symm (by decide) rfl (fun ls hl => ?_)
              refine lv_goto (tgt := 9) hx hb dX6_isBrought_130 (by decide) ?_
              exact ih_87563 v_87617 v_87616 v_87615 ls (tr_w h_v_87617 (by decide) (by decide)) (tr_w h_v_87616 (by decide) (by decide)) (tr_w h_v_87615 (by decide) (by decide)) (by (first | (clear h_p0 h_n_nodes h_x_87561 h_x_87562 hw_87578 h_v_87605 c_87606_i h_87607; omega) | omega)) (lv_sub hl [0, 1, 2, 5, 6, 7, 8] rfl)
          · skip
            have c_87606_i : (v_87605 : Int32).toInt = (3 : Int32).toInt := congrArg Int32.toInt c_87606
            have h_87608 : 3 ≤ (v_87605 : Int32).toInt ∧ (v_87605 : Int32).toInt ≤ 3 := nr_eq_l h_v_87605 (⟨by decide, by decide⟩ : 3 ≤ (3 : Int32).toInt ∧ (3 : Int32).toInt ≤ 3) c_87606_i (by decide) (by decide)
            refine lv_iload hx hb dX6_isBrought_64 (lv_at hl 4 rfl) ?_
            refine lv_iload hx hb dX6_isBrought_66 (lv_at hl 0 rfl) ?_
            refine lv_if_ne (tgt := 88) hx hb dX6_isBrought_68 (by decide) (fun _ => ?_) (fun h9 => absurd h9 (by decide))
            refine lv_iconst (v := 1) hx hb dX6_isBrought_88 (by decide) ?_
            refine lv_goto (tgt := 93) hx hb dX6_isBrought_89 (by decide) ?_
            refine lv_ior hx hb dX6_isBrought_93 ?_
            refine lv_topi (fun v_87618 v_87618_e => ?_)
            have h_v_87618 : 0 ≤ (v_87618 : Int32).toInt ∧ (v_87618 : Int32).toInt ≤ 1 := by rw [v_87618_e]; exact tr_or01 (tr_w h_x_87562 (by decide) (by decide)) (⟨by decide, by decide⟩ : 0 ≤ (1 : Int32).toInt ∧ (1 : Int32).toInt ≤ 1)
            refine lv_istore (lv' := [(4, .int v_87618), (8, .int 1), (7, .int r_87577), (6, .int x_87560), (5, .int x_87561), (0, .ref sv), (1, .int p0), (2, .int p1), (3, .ref vs)]) hx hb dX6_isBrought_94 hl (by decide) rfl (fun ls hl => ?_)
            refine lv_goto (tgt := 127) hx hb dX6_isBrought_96 (by decide) ?_
            obtain ⟨v_87619, v_87619_e⟩ : ∃ y : Int32, y = x_87560 + Int32.ofInt 1 := ⟨_, rfl⟩
            have h_v_87619 : 1 ≤ (v_87619 : Int32).toInt ∧ (v_87619 : Int32).toInt ≤ 3 := by rw [v_87619_e]; exact tr_add h_87566 (⟨by decide, by decide⟩ : 1 ≤ (Int32.ofInt 1 : Int32).toInt ∧ (Int32.ofInt 1 : Int32).toInt ≤ 1) (by decide) (by decide) (by decide) (by decide)
            have q_v_87619 : v_87619.toInt = x_87560.toInt + 1 := by rw [v_87619_e]; exact tr_addE h_87566 (⟨by decide, by decide⟩ : 1 ≤ (Int32.ofInt 1 : Int32).toInt ∧ (Int32.ofInt 1 : Int32).toInt ≤ 1) (by decide) (by decide)
            refine lv_iinc (v := v_87619) (lv' := [(6, .int v_87619), (4, .int v_87618), (8, .int 1), (7, .int r_87577), (5, .int x_87561), (0, .ref sv), (1, .int p0), (2, .int p1), (3, .ref vs)]) hx hb dX6_isBrought_127 hl (k := 3) rfl v_87619_e.symm (by decide) rfl (fun ls hl => ?_)
            refine lv_goto (tgt := 9) hx hb dX6_isBrought_130 (by decide) ?_
            exact ih_87563 v_87619 x_87561 v_87618 ls (tr_w h_v_87619 (by decide) (by decide)) (tr_w h_x_87561 (by decide) (by decide)) (tr_w h_v_87618 (by decide) (by decide)) (by (first | (clear h_p0 h_n_nodes h_x_87562 hw_87578 h_v_87605 c_87606_i h_87608; omega) | omega)) (lv_sub hl [0, 4, 1, 5, 6, 7, 8] rfl)
  exact lp_87563 4 0 1 0 ls (⟨by decide, by decide⟩ : 0 ≤ (0 : Int32).toInt ∧ (0 : Int32).toInt ≤ 3) (⟨by decide, by decide⟩ : 0 ≤ (1 : Int32).toInt ∧ (1 : Int32).toInt ≤ 1) (⟨by decide, by decide⟩ : 0 ≤ (0 : Int32).toInt ∧ (0 : Int32).toInt ≤ 1) (by decide) (lv_sub hl [0, 1, 2, 3, 4, 5, 6] rfl)
set_option maxHeartbeats 4000000 in
set_option maxRecDepth 100000 in
theorem c_X6_bringsAll (l : Launch) (D : va_G) (g : Nat → ClassId) (sv : Nat) (vs : Nat) (n : Nat) (co : Nat) (sv_keep : Nat) (sv_scaled : Nat) (n_nodes : Int32) (n_kind : Nat) (n_pay : Nat) (n_name : Nat) (n_ways : Nat) (n_held : Nat) (n_targets : Nat) (n_weights : Nat) (n_fkind : Nat → Int32) (n_fpay : Nat → Int32) (n_fways : Nat → Int32) (n_fheld : Nat → Int32) (n_ftargets : Nat → Int32) (vs_part : Nat) (vsw : Int64) (vsp : Nat → Int64) (kpf : Nat → Int32) (h_n_nodes : 0 ≤ (n_nodes : Int32).toInt ∧ (n_nodes : Int32).toInt ≤ 12) (h_n_fkind : ∀ j : Nat, 0 ≤ (n_fkind j).toInt ∧ (n_fkind j).toInt ≤ 3) (h_n_fways : ∀ j : Nat, 0 ≤ (n_fways j).toInt ∧ (n_fways j).toInt ≤ 3) (h_n_fheld : ∀ j : Nat, (-1) ≤ (n_fheld j).toInt ∧ (n_fheld j).toInt ≤ 2) (h_n_ftargets : ∀ j : Nat, 0 ≤ (n_ftargets j).toInt ∧ (n_ftargets j).toInt ≤ 11) : Met l yX6_bringsAll (.code yX6_bringsAll cX6_bringsAll 6 (some .boolean) :: wsL_law) ({ frames := 2, cells := 0, slots := 0, locals := 50 }) (va_Pc [.ref sv, .ref vs] (fun U => va_P D vwCl [(wO6 sv n co sv_keep sv_scaled), (wO2 n n_nodes n_kind n_pay n_name n_ways n_held n_targets n_weights), (wI g n_kind 0 12 n_fkind), (wI g n_pay 0 12 n_fpay), (wI g n_ways 0 12 n_fways), (wI g n_held 0 12 n_fheld), (wI g n_targets 0 36 n_ftargets), (wO10 vs vs_part vsw), (wJ g vs_part 1 12 vsp), (wI g sv_keep 0 12 kpf)] U.heap ∧ va_K D vwCl (TY g) U)) (vp_Si (fun r => 0 ≤ (r : Int32).toInt ∧ (r : Int32).toInt ≤ 1)) 0 0 (fun _ => False) := by
  refine Met.ofW (cc := cX6_bringsAll) (maxL := 6) (ret := (some .boolean)) (by decide) rfl ?_
  intro p e s m args below meth c s₁ B hml hv
  obtain ⟨ha, hP, hK⟩ := hv
  have hx := B.exec
  have hb := B.bytes
  have hr := B.returns
  have hts0 := atoms_spec (ws := (.code yX6_bringsAll cX6_bringsAll 6 (some .boolean) :: wsL_law)) B.pre
  have hts : ∀ w ∈ wsL_law, w.before args s = true := fun w h => hts0 w (List.mem_cons_of_mem _ h)
  have hown : s.vm.findClass RX6 = some m.cls := findClass_of_methodNamed B.named
  have hlocks := B.notSynchronized
  have hP : va_P D vwCl [(wO6 sv n co sv_keep sv_scaled), (wO2 n n_nodes n_kind n_pay n_name n_ways n_held n_targets n_weights), (wI g n_kind 0 12 n_fkind), (wI g n_pay 0 12 n_fpay), (wI g n_ways 0 12 n_fways), (wI g n_held 0 12 n_fheld), (wI g n_targets 0 36 n_ftargets), (wO10 vs vs_part vsw), (wJ g vs_part 1 12 vsp), (wI g sv_keep 0 12 kpf)] s.heap := hP
  refine W.eq (g2 := entryFrame m ([.ref sv, .ref vs] : List Value).toArray 6) (by rw [ha]) ?_
  have hl := lv_entry ([.ref sv, .ref vs]) (n := 6) (Nat.le_of_ble_eq_true rfl)
  rw [lg_entry_eq]
  generalize (lg_sl ([.ref sv, .ref vs]) ++ List.replicate (6 - (lg_sl ([.ref sv, .ref vs])).length) Slot.unset).toArray = ls at hl ⊢
  have hl : lv_has ls 6 [(0, .ref sv), (1, .ref vs)] := hl
  refine lv_aload_n hx hb dX6_bringsAll_0 rfl (lv_at hl 0 rfl) ?_
  refine va_get (D := D) (ci := 6) (v := .ref n) (C := RX6) (T := TX6) (N := 4) hx hb hts inlX6 hown hK hP 0 rfl rfl 0 (by decide) (hts (Cond.fieldLink RX6 19 "ChanceRings$Solver" "net" "LChanceRings$Net;") qw_548) (fun _ h9 => h9) rfl dX6_bringsAll_1 ?_
  have hPc := hP.sub (ws' := [(wO2 n n_nodes n_kind n_pay n_name n_ways n_held n_targets n_weights), (wI g n_kind 0 12 n_fkind), (wI g n_pay 0 12 n_fpay)]) [1, 2, 3] rfl
  refine vp_callSi (va_Run.run (va_runV (As := []) (rest := []) ⟨hx, hb, hml, hown, hts⟩ (c_X2_payingEnds l D g n n_nodes n_kind n_pay n_name n_ways n_held n_targets n_weights n_fkind n_fpay (tr_w h_n_nodes (by decide) (by decide)) (tr_wa h_n_fkind (by decide) (by decide))) (cwV 0 hts (tz_gV qw_564 qw_505 qw_506 qw_322 qw_507) rfl rfl rfl (by decide +kernel) ⟨Nat.le_of_ble_eq_true rfl, Nat.le_of_ble_eq_true rfl⟩) ⟨tz_blS, va_recv hK hPc (ci := 2) (q0 := 0) rfl rfl, tz_preS hPc hK⟩ rfl rfl hl.1 rfl (lv_room (Nat.le_of_ble_eq_true rfl)) dX6_bringsAll_4 ⟨Nat.le_of_ble_eq_true rfl, Nat.le_of_ble_eq_true rfl⟩)) (fun r_87620 hw => ?_)
  refine lv_istore_n (lv' := [(2, .int r_87620), (0, .ref sv), (1, .ref vs)]) hx hb dX6_bringsAll_7 rfl hl (by decide) rfl (fun ls hl => ?_)
  refine lv_iconst (v := (-1)) hx hb dX6_bringsAll_8 (by decide) ?_
  refine lv_istore_n (lv' := [(3, .int (-1)), (2, .int r_87620), (0, .ref sv), (1, .ref vs)]) hx hb dX6_bringsAll_9 rfl hl (by decide) rfl (fun ls hl => ?_)
  refine lv_iconst (v := 0) hx hb dX6_bringsAll_10 (by decide) ?_
  refine lv_istore (lv' := [(4, .int 0), (3, .int (-1)), (2, .int r_87620), (0, .ref sv), (1, .ref vs)]) hx hb dX6_bringsAll_11 hl (by decide) rfl (fun ls hl => ?_)
  have lp_90306 : ∀ (n_90306 : Nat) (x_90303 : Int32) (x_90304 : Int32) (x_90305 : Int32) (ls : Array Slot), (0 ≤ (x_90303 : Int32).toInt ∧ (x_90303 : Int32).toInt ≤ 12) → (12 - x_90303.toInt < (n_90306 : Int)) → lv_has ls 6 [(4, .int x_90303), (3, .int x_90304), (2, .int x_90305), (0, .ref sv), (1, .ref vs)] → W p l e (headSpec (.code yX6_bringsAll cX6_bringsAll 6 (some .boolean) :: wsL_law) ({ frames := 2, cells := 0, slots := 0, locals := 50 })).room s m args below meth c s.heap [] 0 0 (MQ below (vp_Si (fun r => 0 ≤ (r : Int32).toInt ∧ (r : Int32).toInt ≤ 1)) args s 0 0 (fun _ => False)) (F0 m 13 ls []) := by
    intro n_90306
    induction n_90306 with
    | zero =>
      intro x_90303 x_90304 x_90305 ls h_x_90303 hm_90306 hl
      exfalso; omega
    | succ n_90306 ih_90306 =>
      intro x_90303 x_90304 x_90305 ls h_x_90303 hm_90306 hl
      refine lv_iload hx hb dX6_bringsAll_13 (lv_at hl 0 rfl) ?_
      refine lv_bipush (v := 12) hx hb dX6_bringsAll_15 (by decide) ?_
      refine lv_icmp_ge (tgt := 84) hx hb dX6_bringsAll_17 (by decide) (fun c_90307 => ?_) (fun c_90307 => ?_)
      · skip
        have c_90307_i := Int32.le_iff_toInt_le.mp c_90307
        have h_90308 : 12 ≤ (x_90303 : Int32).toInt ∧ (x_90303 : Int32).toInt ≤ 12 := nr_le_r (⟨by decide, by decide⟩ : 12 ≤ (12 : Int32).toInt ∧ (12 : Int32).toInt ≤ 12) h_x_90303 c_90307_i (by decide) (by decide)
        refine lv_iconst (v := 0) hx hb dX6_bringsAll_84 (by decide) ?_
        refine lv_istore (lv' := [(4, .int 0), (3, .int x_90304), (2, .int x_90305), (0, .ref sv), (1, .ref vs)]) hx hb dX6_bringsAll_85 hl (by decide) rfl (fun ls hl => ?_)
        have lp_90428 : ∀ (n_90428 : Nat) (x_90427 : Int32) (ls : Array Slot), (0 ≤ (x_90427 : Int32).toInt ∧ (x_90427 : Int32).toInt ≤ 12) → (12 - x_90427.toInt < (n_90428 : Int)) → lv_has ls 6 [(4, .int x_90427), (3, .int x_90304), (2, .int x_90305), (0, .ref sv), (1, .ref vs)] → W p l e (headSpec (.code yX6_bringsAll cX6_bringsAll 6 (some .boolean) :: wsL_law) ({ frames := 2, cells := 0, slots := 0, locals := 50 })).room s m args below meth c s.heap [] 0 0 (MQ below (vp_Si (fun r => 0 ≤ (r : Int32).toInt ∧ (r : Int32).toInt ≤ 1)) args s 0 0 (fun _ => False)) (F0 m 87 ls []) := by
          intro n_90428
          induction n_90428 with
          | zero =>
            intro x_90427 ls h_x_90427 hm_90428 hl
            exfalso; omega
          | succ n_90428 ih_90428 =>
            intro x_90427 ls h_x_90427 hm_90428 hl
            refine lv_iload hx hb dX6_bringsAll_87 (lv_at hl 0 rfl) ?_
            refine lv_aload_n hx hb dX6_bringsAll_89 rfl (lv_at hl 3 rfl) ?_
            refine va_get (D := D) (ci := 6) (v := .ref n) (C := RX6) (T := TX6) (N := 4) hx hb hts inlX6 hown hK hP 0 rfl rfl 0 (by decide) (hts (Cond.fieldLink RX6 19 "ChanceRings$Solver" "net" "LChanceRings$Net;") qw_548) (fun _ h9 => h9) rfl dX6_bringsAll_90 ?_
            refine va_get (D := D) (ci := 2) (v := .int n_nodes) (C := RX2) (T := TX2) (N := 8) hx hb hts inlX2 hown hK hP 1 rfl rfl 0 (by decide) (hts (Cond.fieldLink RX6 32 "ChanceRings$Net" "nodes" "I") qw_549) (fun _ h9 => h9) rfl dX6_bringsAll_93 ?_
            refine lv_icmp_ge (tgt := 128) hx hb dX6_bringsAll_96 (by decide) (fun c_90429 => ?_) (fun c_90429 => ?_)
            · skip
              refine lv_iconst (v := 1) hx hb dX6_bringsAll_128 (by decide) ?_
              exact W.zret (v := 1) hx hb hr (by decide) (fun t ht hW => ⟨1, rfl, (⟨by decide, by decide⟩ : 0 ≤ (1 : Int32).toInt ∧ (1 : Int32).toInt ≤ 1), ht⟩) (fun _ h => nomatch h) dX6_bringsAll_129
            · skip
              have c_90429_i := Int32.lt_iff_toInt_lt.mp (Int32.not_le.mp c_90429)
              have h_90430 : 0 ≤ (x_90427 : Int32).toInt ∧ (x_90427 : Int32).toInt ≤ 11 := nr_lt_l h_x_90427 h_n_nodes c_90429_i (by decide) (by decide)
              have h_90431 : 1 ≤ (n_nodes : Int32).toInt ∧ (n_nodes : Int32).toInt ≤ 12 := nr_lt_r h_x_90427 h_n_nodes c_90429_i (by decide) (by decide)
              refine lv_aload_n hx hb dX6_bringsAll_99 rfl (lv_at hl 4 rfl) ?_
              refine va_get (D := D) (ci := 10) (v := .ref vs_part) (C := RX10) (T := TX10) (N := 2) hx hb hts inlX10 hown hK hP 7 rfl rfl 0 (by decide) (hts (Cond.fieldLink RX6 71 "ChanceRings$Values" "part" "[J") qw_553) (fun _ h9 => h9) rfl dX6_bringsAll_100 ?_
              refine lv_iload hx hb dX6_bringsAll_103 (lv_at hl 0 rfl) ?_
              refine va_lald hx hb hK hP 8 1 rfl rfl (tr_in h_90430 (by decide) (by decide)) dX6_bringsAll_105 ?_
              refine lv_topl (fun w_90432 _ => ?_)
              refine lv_lconst (v := 0) hx hb dX6_bringsAll_106 (by decide) ?_
              refine W.lcmp hx hb dX6_bringsAll_107 ?_
              refine lv_topi (fun v_90433 v_90433_e => ?_)
              have h_v_90433 : (-1) ≤ (v_90433 : Int32).toInt ∧ (v_90433 : Int32).toInt ≤ 1 := by rw [v_90433_e]; exact tr_cmp _ _
              refine lv_if_le (tgt := 122) hx hb dX6_bringsAll_108 (by decide) (fun c_90434 => ?_) (fun c_90434 => ?_)
              · skip
                have c_90434_i := Int32.le_iff_toInt_le.mp c_90434
                have h_90435 : (-1) ≤ (v_90433 : Int32).toInt ∧ (v_90433 : Int32).toInt ≤ 0 := nr_le_l h_v_90433 (⟨by decide, by decide⟩ : 0 ≤ (0 : Int32).toInt ∧ (0 : Int32).toInt ≤ 0) c_90434_i (by decide) (by decide)
                obtain ⟨v_90437, v_90437_e⟩ : ∃ y : Int32, y = x_90427 + Int32.ofInt 1 := ⟨_, rfl⟩
                have h_v_90437 : 1 ≤ (v_90437 : Int32).toInt ∧ (v_90437 : Int32).toInt ≤ 12 := by rw [v_90437_e]; exact tr_add h_90430 (⟨by decide, by decide⟩ : 1 ≤ (Int32.ofInt 1 : Int32).toInt ∧ (Int32.ofInt 1 : Int32).toInt ≤ 1) (by decide) (by decide) (by decide) (by decide)
                have q_v_90437 : v_90437.toInt = x_90427.toInt + 1 := by rw [v_90437_e]; exact tr_addE h_90430 (⟨by decide, by decide⟩ : 1 ≤ (Int32.ofInt 1 : Int32).toInt ∧ (Int32.ofInt 1 : Int32).toInt ≤ 1) (by decide) (by decide)
                refine lv_iinc (v := v_90437) (lv' := [(4, .int v_90437), (3, .int x_90304), (2, .int x_90305), (0, .ref sv), (1, .ref vs)]) hx hb dX6_bringsAll_122 hl (k := 0) rfl v_90437_e.symm (by decide) rfl (fun ls hl => ?_)
                refine lv_goto (tgt := 87) hx hb dX6_bringsAll_125 (by decide) ?_
                exact ih_90428 v_90437 ls (tr_w h_v_90437 (by decide) (by decide)) (by (first | (clear h_x_90303 c_90307_i h_90308 h_v_90433 c_90434_i h_90435; omega) | omega)) (lv_sub hl [0, 1, 2, 3, 4] rfl)
              · skip
                have c_90434_i := Int32.lt_iff_toInt_lt.mp (Int32.not_le.mp c_90434)
                have h_90436 : 1 ≤ (v_90433 : Int32).toInt ∧ (v_90433 : Int32).toInt ≤ 1 := nr_lt_r (⟨by decide, by decide⟩ : 0 ≤ (0 : Int32).toInt ∧ (0 : Int32).toInt ≤ 0) h_v_90433 c_90434_i (by decide) (by decide)
                refine lv_iload_n hx hb dX6_bringsAll_111 rfl (lv_at hl 2 rfl) ?_
                refine lv_iload hx hb dX6_bringsAll_112 (lv_at hl 0 rfl) ?_
                refine lv_ishr hx hb dX6_bringsAll_114 ?_
                refine lv_topi (fun v_90438 v_90438_e => ?_)
                refine lv_iconst (v := 1) hx hb dX6_bringsAll_115 (by decide) ?_
                refine lv_iand hx hb dX6_bringsAll_116 ?_
                refine lv_topi (fun v_90439 v_90439_e => ?_)
                refine lv_if_ne (tgt := 122) hx hb dX6_bringsAll_117 (by decide) (fun c_90440 => ?_) (fun c_90440 => ?_)
                · skip
                  obtain ⟨v_90442, v_90442_e⟩ : ∃ y : Int32, y = x_90427 + Int32.ofInt 1 := ⟨_, rfl⟩
                  have h_v_90442 : 1 ≤ (v_90442 : Int32).toInt ∧ (v_90442 : Int32).toInt ≤ 12 := by rw [v_90442_e]; exact tr_add h_90430 (⟨by decide, by decide⟩ : 1 ≤ (Int32.ofInt 1 : Int32).toInt ∧ (Int32.ofInt 1 : Int32).toInt ≤ 1) (by decide) (by decide) (by decide) (by decide)
                  have q_v_90442 : v_90442.toInt = x_90427.toInt + 1 := by rw [v_90442_e]; exact tr_addE h_90430 (⟨by decide, by decide⟩ : 1 ≤ (Int32.ofInt 1 : Int32).toInt ∧ (Int32.ofInt 1 : Int32).toInt ≤ 1) (by decide) (by decide)
                  refine lv_iinc (v := v_90442) (lv' := [(4, .int v_90442), (3, .int x_90304), (2, .int x_90305), (0, .ref sv), (1, .ref vs)]) hx hb dX6_bringsAll_122 hl (k := 0) rfl v_90442_e.symm (by decide) rfl (fun ls hl => ?_)
                  refine lv_goto (tgt := 87) hx hb dX6_bringsAll_125 (by decide) ?_
                  exact ih_90428 v_90442 ls (tr_w h_v_90442 (by decide) (by decide)) (by (first | (clear h_x_90303 c_90307_i h_90308 h_v_90433 c_90434_i h_90436; omega) | omega)) (lv_sub hl [0, 1, 2, 3, 4] rfl)
                · skip
                  have h_90441 : 0 ≤ (v_90439 : Int32).toInt ∧ (v_90439 : Int32).toInt ≤ 0 := by rw [c_90440]; exact ⟨by decide, by decide⟩
                  refine lv_iconst (v := 0) hx hb dX6_bringsAll_120 (by decide) ?_
                  exact W.zret (v := 0) hx hb hr (by decide) (fun t ht hW => ⟨0, rfl, (⟨by decide, by decide⟩ : 0 ≤ (0 : Int32).toInt ∧ (0 : Int32).toInt ≤ 1), ht⟩) (fun _ h => nomatch h) dX6_bringsAll_121
        exact lp_90428 13 0 ls (⟨by decide, by decide⟩ : 0 ≤ (0 : Int32).toInt ∧ (0 : Int32).toInt ≤ 12) (by decide) (lv_sub hl [0, 1, 2, 3, 4] rfl)
      · skip
        have c_90307_i := Int32.lt_iff_toInt_lt.mp (Int32.not_le.mp c_90307)
        have h_90309 : 0 ≤ (x_90303 : Int32).toInt ∧ (x_90303 : Int32).toInt ≤ 11 := nr_lt_l h_x_90303 (⟨by decide, by decide⟩ : 12 ≤ (12 : Int32).toInt ∧ (12 : Int32).toInt ≤ 12) c_90307_i (by decide) (by decide)
        refine lv_iload_n hx hb dX6_bringsAll_20 rfl (lv_at hl 2 rfl) ?_
        refine lv_iload_n hx hb dX6_bringsAll_21 rfl (lv_at hl 1 rfl) ?_
        refine lv_icmp_eq (tgt := 84) hx hb dX6_bringsAll_22 (by decide) (fun c_90443 => ?_) (fun c_90443 => ?_)
        · skip
          refine lv_iconst (v := 0) hx hb dX6_bringsAll_84 (by decide) ?_
          refine lv_istore (lv' := [(4, .int 0), (3, .int x_90304), (2, .int x_90305), (0, .ref sv), (1, .ref vs)]) hx hb dX6_bringsAll_85 hl (by decide) rfl (fun ls hl => ?_)
          have lp_90562 : ∀ (n_90562 : Nat) (x_90561 : Int32) (ls : Array Slot), (0 ≤ (x_90561 : Int32).toInt ∧ (x_90561 : Int32).toInt ≤ 12) → (12 - x_90561.toInt < (n_90562 : Int)) → lv_has ls 6 [(4, .int x_90561), (3, .int x_90304), (2, .int x_90305), (0, .ref sv), (1, .ref vs)] → W p l e (headSpec (.code yX6_bringsAll cX6_bringsAll 6 (some .boolean) :: wsL_law) ({ frames := 2, cells := 0, slots := 0, locals := 50 })).room s m args below meth c s.heap [] 0 0 (MQ below (vp_Si (fun r => 0 ≤ (r : Int32).toInt ∧ (r : Int32).toInt ≤ 1)) args s 0 0 (fun _ => False)) (F0 m 87 ls []) := by
            intro n_90562
            induction n_90562 with
            | zero =>
              intro x_90561 ls h_x_90561 hm_90562 hl
              exfalso; omega
            | succ n_90562 ih_90562 =>
              intro x_90561 ls h_x_90561 hm_90562 hl
              refine lv_iload hx hb dX6_bringsAll_87 (lv_at hl 0 rfl) ?_
              refine lv_aload_n hx hb dX6_bringsAll_89 rfl (lv_at hl 3 rfl) ?_
              refine va_get (D := D) (ci := 6) (v := .ref n) (C := RX6) (T := TX6) (N := 4) hx hb hts inlX6 hown hK hP 0 rfl rfl 0 (by decide) (hts (Cond.fieldLink RX6 19 "ChanceRings$Solver" "net" "LChanceRings$Net;") qw_548) (fun _ h9 => h9) rfl dX6_bringsAll_90 ?_
              refine va_get (D := D) (ci := 2) (v := .int n_nodes) (C := RX2) (T := TX2) (N := 8) hx hb hts inlX2 hown hK hP 1 rfl rfl 0 (by decide) (hts (Cond.fieldLink RX6 32 "ChanceRings$Net" "nodes" "I") qw_549) (fun _ h9 => h9) rfl dX6_bringsAll_93 ?_
              refine lv_icmp_ge (tgt := 128) hx hb dX6_bringsAll_96 (by decide) (fun c_90563 => ?_) (fun c_90563 => ?_)
              · skip
                refine lv_iconst (v := 1) hx hb dX6_bringsAll_128 (by decide) ?_
                exact W.zret (v := 1) hx hb hr (by decide) (fun t ht hW => ⟨1, rfl, (⟨by decide, by decide⟩ : 0 ≤ (1 : Int32).toInt ∧ (1 : Int32).toInt ≤ 1), ht⟩) (fun _ h => nomatch h) dX6_bringsAll_129
              · skip
                have c_90563_i := Int32.lt_iff_toInt_lt.mp (Int32.not_le.mp c_90563)
                have h_90564 : 0 ≤ (x_90561 : Int32).toInt ∧ (x_90561 : Int32).toInt ≤ 11 := nr_lt_l h_x_90561 h_n_nodes c_90563_i (by decide) (by decide)
                have h_90565 : 1 ≤ (n_nodes : Int32).toInt ∧ (n_nodes : Int32).toInt ≤ 12 := nr_lt_r h_x_90561 h_n_nodes c_90563_i (by decide) (by decide)
                refine lv_aload_n hx hb dX6_bringsAll_99 rfl (lv_at hl 4 rfl) ?_
                refine va_get (D := D) (ci := 10) (v := .ref vs_part) (C := RX10) (T := TX10) (N := 2) hx hb hts inlX10 hown hK hP 7 rfl rfl 0 (by decide) (hts (Cond.fieldLink RX6 71 "ChanceRings$Values" "part" "[J") qw_553) (fun _ h9 => h9) rfl dX6_bringsAll_100 ?_
                refine lv_iload hx hb dX6_bringsAll_103 (lv_at hl 0 rfl) ?_
                refine va_lald hx hb hK hP 8 1 rfl rfl (tr_in h_90564 (by decide) (by decide)) dX6_bringsAll_105 ?_
                refine lv_topl (fun w_90566 _ => ?_)
                refine lv_lconst (v := 0) hx hb dX6_bringsAll_106 (by decide) ?_
                refine W.lcmp hx hb dX6_bringsAll_107 ?_
                refine lv_topi (fun v_90567 v_90567_e => ?_)
                have h_v_90567 : (-1) ≤ (v_90567 : Int32).toInt ∧ (v_90567 : Int32).toInt ≤ 1 := by rw [v_90567_e]; exact tr_cmp _ _
                refine lv_if_le (tgt := 122) hx hb dX6_bringsAll_108 (by decide) (fun c_90568 => ?_) (fun c_90568 => ?_)
                · skip
                  have c_90568_i := Int32.le_iff_toInt_le.mp c_90568
                  have h_90569 : (-1) ≤ (v_90567 : Int32).toInt ∧ (v_90567 : Int32).toInt ≤ 0 := nr_le_l h_v_90567 (⟨by decide, by decide⟩ : 0 ≤ (0 : Int32).toInt ∧ (0 : Int32).toInt ≤ 0) c_90568_i (by decide) (by decide)
                  obtain ⟨v_90571, v_90571_e⟩ : ∃ y : Int32, y = x_90561 + Int32.ofInt 1 := ⟨_, rfl⟩
                  have h_v_90571 : 1 ≤ (v_90571 : Int32).toInt ∧ (v_90571 : Int32).toInt ≤ 12 := by rw [v_90571_e]; exact tr_add h_90564 (⟨by decide, by decide⟩ : 1 ≤ (Int32.ofInt 1 : Int32).toInt ∧ (Int32.ofInt 1 : Int32).toInt ≤ 1) (by decide) (by decide) (by decide) (by decide)
                  have q_v_90571 : v_90571.toInt = x_90561.toInt + 1 := by rw [v_90571_e]; exact tr_addE h_90564 (⟨by decide, by decide⟩ : 1 ≤ (Int32.ofInt 1 : Int32).toInt ∧ (Int32.ofInt 1 : Int32).toInt ≤ 1) (by decide) (by decide)
                  refine lv_iinc (v := v_90571) (lv' := [(4, .int v_90571), (3, .int x_90304), (2, .int x_90305), (0, .ref sv), (1, .ref vs)]) hx hb dX6_bringsAll_122 hl (k := 0) rfl v_90571_e.symm (by decide) rfl (fun ls hl => ?_)
                  refine lv_goto (tgt := 87) hx hb dX6_bringsAll_125 (by decide) ?_
                  exact ih_90562 v_90571 ls (tr_w h_v_90571 (by decide) (by decide)) (by (first | (clear h_x_90303 c_90307_i h_90309 h_v_90567 c_90568_i h_90569; omega) | omega)) (lv_sub hl [0, 1, 2, 3, 4] rfl)
                · skip
                  have c_90568_i := Int32.lt_iff_toInt_lt.mp (Int32.not_le.mp c_90568)
                  have h_90570 : 1 ≤ (v_90567 : Int32).toInt ∧ (v_90567 : Int32).toInt ≤ 1 := nr_lt_r (⟨by decide, by decide⟩ : 0 ≤ (0 : Int32).toInt ∧ (0 : Int32).toInt ≤ 0) h_v_90567 c_90568_i (by decide) (by decide)
                  refine lv_iload_n hx hb dX6_bringsAll_111 rfl (lv_at hl 2 rfl) ?_
                  refine lv_iload hx hb dX6_bringsAll_112 (lv_at hl 0 rfl) ?_
                  refine lv_ishr hx hb dX6_bringsAll_114 ?_
                  refine lv_topi (fun v_90572 v_90572_e => ?_)
                  refine lv_iconst (v := 1) hx hb dX6_bringsAll_115 (by decide) ?_
                  refine lv_iand hx hb dX6_bringsAll_116 ?_
                  refine lv_topi (fun v_90573 v_90573_e => ?_)
                  refine lv_if_ne (tgt := 122) hx hb dX6_bringsAll_117 (by decide) (fun c_90574 => ?_) (fun c_90574 => ?_)
                  · skip
                    obtain ⟨v_90576, v_90576_e⟩ : ∃ y : Int32, y = x_90561 + Int32.ofInt 1 := ⟨_, rfl⟩
                    have h_v_90576 : 1 ≤ (v_90576 : Int32).toInt ∧ (v_90576 : Int32).toInt ≤ 12 := by rw [v_90576_e]; exact tr_add h_90564 (⟨by decide, by decide⟩ : 1 ≤ (Int32.ofInt 1 : Int32).toInt ∧ (Int32.ofInt 1 : Int32).toInt ≤ 1) (by decide) (by decide) (by decide) (by decide)
                    have q_v_90576 : v_90576.toInt = x_90561.toInt + 1 := by rw [v_90576_e]; exact tr_addE h_90564 (⟨by decide, by decide⟩ : 1 ≤ (Int32.ofInt 1 : Int32).toInt ∧ (Int32.ofInt 1 : Int32).toInt ≤ 1) (by decide) (by decide)
                    refine lv_iinc (v := v_90576) (lv' := [(4, .int v_90576), (3, .int x_90304), (2, .int x_90305), (0, .ref sv), (1, .ref vs)]) hx hb dX6_bringsAll_122 hl (k := 0) rfl v_90576_e.symm (by decide) rfl (fun ls hl => ?_)
                    refine lv_goto (tgt := 87) hx hb dX6_bringsAll_125 (by decide) ?_
                    exact ih_90562 v_90576 ls (tr_w h_v_90576 (by decide) (by decide)) (by (first | (clear h_x_90303 c_90307_i h_90309 h_v_90567 c_90568_i h_90570; omega) | omega)) (lv_sub hl [0, 1, 2, 3, 4] rfl)
                  · skip
                    have h_90575 : 0 ≤ (v_90573 : Int32).toInt ∧ (v_90573 : Int32).toInt ≤ 0 := by rw [c_90574]; exact ⟨by decide, by decide⟩
                    refine lv_iconst (v := 0) hx hb dX6_bringsAll_120 (by decide) ?_
                    exact W.zret (v := 0) hx hb hr (by decide) (fun t ht hW => ⟨0, rfl, (⟨by decide, by decide⟩ : 0 ≤ (0 : Int32).toInt ∧ (0 : Int32).toInt ≤ 1), ht⟩) (fun _ h => nomatch h) dX6_bringsAll_121
          exact lp_90562 13 0 ls (⟨by decide, by decide⟩ : 0 ≤ (0 : Int32).toInt ∧ (0 : Int32).toInt ≤ 12) (by decide) (lv_sub hl [0, 1, 2, 3, 4] rfl)
        · skip
          refine lv_iload_n hx hb dX6_bringsAll_25 rfl (lv_at hl 2 rfl) ?_
          refine lv_istore_n (lv' := [(3, .int x_90305), (4, .int x_90303), (2, .int x_90305), (0, .ref sv), (1, .ref vs)]) hx hb dX6_bringsAll_26 rfl hl (by decide) rfl (fun ls hl => ?_)
          refine lv_iconst (v := 0) hx hb dX6_bringsAll_27 (by decide) ?_
          refine lv_istore (lv' := [(5, .int 0), (3, .int x_90305), (4, .int x_90303), (2, .int x_90305), (0, .ref sv), (1, .ref vs)]) hx hb dX6_bringsAll_28 hl (by decide) rfl (fun ls hl => ?_)
          have lp_90741 : ∀ (n_90741 : Nat) (x_90739 : Int32) (x_90740 : Int32) (ls : Array Slot), (0 ≤ (x_90739 : Int32).toInt ∧ (x_90739 : Int32).toInt ≤ 12) → (12 - x_90739.toInt < (n_90741 : Int)) → lv_has ls 6 [(5, .int x_90739), (3, .int x_90305), (4, .int x_90303), (2, .int x_90740), (0, .ref sv), (1, .ref vs)] → W p l e (headSpec (.code yX6_bringsAll cX6_bringsAll 6 (some .boolean) :: wsL_law) ({ frames := 2, cells := 0, slots := 0, locals := 50 })).room s m args below meth c s.heap [] 0 0 (MQ below (vp_Si (fun r => 0 ≤ (r : Int32).toInt ∧ (r : Int32).toInt ≤ 1)) args s 0 0 (fun _ => False)) (F0 m 30 ls []) := by
            intro n_90741
            induction n_90741 with
            | zero =>
              intro x_90739 x_90740 ls h_x_90739 hm_90741 hl
              exfalso; omega
            | succ n_90741 ih_90741 =>
              intro x_90739 x_90740 ls h_x_90739 hm_90741 hl
              refine lv_iload hx hb dX6_bringsAll_30 (lv_at hl 0 rfl) ?_
              refine lv_aload_n hx hb dX6_bringsAll_32 rfl (lv_at hl 4 rfl) ?_
              refine va_get (D := D) (ci := 6) (v := .ref n) (C := RX6) (T := TX6) (N := 4) hx hb hts inlX6 hown hK hP 0 rfl rfl 0 (by decide) (hts (Cond.fieldLink RX6 19 "ChanceRings$Solver" "net" "LChanceRings$Net;") qw_548) (fun _ h9 => h9) rfl dX6_bringsAll_33 ?_
              refine va_get (D := D) (ci := 2) (v := .int n_nodes) (C := RX2) (T := TX2) (N := 8) hx hb hts inlX2 hown hK hP 1 rfl rfl 0 (by decide) (hts (Cond.fieldLink RX6 32 "ChanceRings$Net" "nodes" "I") qw_549) (fun _ h9 => h9) rfl dX6_bringsAll_36 ?_
              refine lv_icmp_ge (tgt := 78) hx hb dX6_bringsAll_39 (by decide) (fun c_90742 => ?_) (fun c_90742 => ?_)
              · skip
                obtain ⟨v_90745, v_90745_e⟩ : ∃ y : Int32, y = x_90303 + Int32.ofInt 1 := ⟨_, rfl⟩
                have h_v_90745 : 1 ≤ (v_90745 : Int32).toInt ∧ (v_90745 : Int32).toInt ≤ 12 := by rw [v_90745_e]; exact tr_add h_90309 (⟨by decide, by decide⟩ : 1 ≤ (Int32.ofInt 1 : Int32).toInt ∧ (Int32.ofInt 1 : Int32).toInt ≤ 1) (by decide) (by decide) (by decide) (by decide)
                have q_v_90745 : v_90745.toInt = x_90303.toInt + 1 := by rw [v_90745_e]; exact tr_addE h_90309 (⟨by decide, by decide⟩ : 1 ≤ (Int32.ofInt 1 : Int32).toInt ∧ (Int32.ofInt 1 : Int32).toInt ≤ 1) (by decide) (by decide)
                refine lv_iinc (v := v_90745) (lv' := [(4, .int v_90745), (5, .int x_90739), (3, .int x_90305), (2, .int x_90740), (0, .ref sv), (1, .ref vs)]) hx hb dX6_bringsAll_78 hl (k := 2) rfl v_90745_e.symm (by decide) rfl (fun ls hl => ?_)
                refine lv_goto (tgt := 13) hx hb dX6_bringsAll_81 (by decide) ?_
                exact ih_90306 v_90745 x_90305 x_90740 ls (tr_w h_v_90745 (by decide) (by decide)) (by omega) (lv_sub hl [0, 2, 3, 4, 5] rfl)
              · skip
                have c_90742_i := Int32.lt_iff_toInt_lt.mp (Int32.not_le.mp c_90742)
                have h_90743 : 0 ≤ (x_90739 : Int32).toInt ∧ (x_90739 : Int32).toInt ≤ 11 := nr_lt_l h_x_90739 h_n_nodes c_90742_i (by decide) (by decide)
                have h_90744 : 1 ≤ (n_nodes : Int32).toInt ∧ (n_nodes : Int32).toInt ≤ 12 := nr_lt_r h_x_90739 h_n_nodes c_90742_i (by decide) (by decide)
                refine lv_aload_n hx hb dX6_bringsAll_42 rfl (lv_at hl 5 rfl) ?_
                refine va_get (D := D) (ci := 10) (v := .ref vs_part) (C := RX10) (T := TX10) (N := 2) hx hb hts inlX10 hown hK hP 7 rfl rfl 0 (by decide) (hts (Cond.fieldLink RX6 71 "ChanceRings$Values" "part" "[J") qw_553) (fun _ h9 => h9) rfl dX6_bringsAll_43 ?_
                refine lv_iload hx hb dX6_bringsAll_46 (lv_at hl 0 rfl) ?_
                refine va_lald hx hb hK hP 8 1 rfl rfl (tr_in h_90743 (by decide) (by decide)) dX6_bringsAll_48 ?_
                refine lv_topl (fun w_90746 _ => ?_)
                refine lv_lconst (v := 0) hx hb dX6_bringsAll_49 (by decide) ?_
                refine W.lcmp hx hb dX6_bringsAll_50 ?_
                refine lv_topi (fun v_90747 v_90747_e => ?_)
                have h_v_90747 : (-1) ≤ (v_90747 : Int32).toInt ∧ (v_90747 : Int32).toInt ≤ 1 := by rw [v_90747_e]; exact tr_cmp _ _
                refine lv_if_le (tgt := 72) hx hb dX6_bringsAll_51 (by decide) (fun c_90748 => ?_) (fun c_90748 => ?_)
                · skip
                  have c_90748_i := Int32.le_iff_toInt_le.mp c_90748
                  have h_90749 : (-1) ≤ (v_90747 : Int32).toInt ∧ (v_90747 : Int32).toInt ≤ 0 := nr_le_l h_v_90747 (⟨by decide, by decide⟩ : 0 ≤ (0 : Int32).toInt ∧ (0 : Int32).toInt ≤ 0) c_90748_i (by decide) (by decide)
                  obtain ⟨v_90751, v_90751_e⟩ : ∃ y : Int32, y = x_90739 + Int32.ofInt 1 := ⟨_, rfl⟩
                  have h_v_90751 : 1 ≤ (v_90751 : Int32).toInt ∧ (v_90751 : Int32).toInt ≤ 12 := by rw [v_90751_e]; exact tr_add h_90743 (⟨by decide, by decide⟩ : 1 ≤ (Int32.ofInt 1 : Int32).toInt ∧ (Int32.ofInt 1 : Int32).toInt ≤ 1) (by decide) (by decide) (by decide) (by decide)
                  have q_v_90751 : v_90751.toInt = x_90739.toInt + 1 := by rw [v_90751_e]; exact tr_addE h_90743 (⟨by decide, by decide⟩ : 1 ≤ (Int32.ofInt 1 : Int32).toInt ∧ (Int32.ofInt 1 : Int32).toInt ≤ 1) (by decide) (by decide)
                  refine lv_iinc (v := v_90751) (lv' := [(5, .int v_90751), (3, .int x_90305), (4, .int x_90303), (2, .int x_90740), (0, .ref sv), (1, .ref vs)]) hx hb dX6_bringsAll_72 hl (k := 0) rfl v_90751_e.symm (by decide) rfl (fun ls hl => ?_)
                  refine lv_goto (tgt := 30) hx hb dX6_bringsAll_75 (by decide) ?_
                  exact ih_90741 v_90751 x_90740 ls (tr_w h_v_90751 (by decide) (by decide)) (by (first | (clear h_x_90303 c_90307_i h_90309 h_v_90747 c_90748_i h_90749; omega) | omega)) (lv_sub hl [0, 1, 2, 3, 4, 5] rfl)
                · skip
                  have c_90748_i := Int32.lt_iff_toInt_lt.mp (Int32.not_le.mp c_90748)
                  have h_90750 : 1 ≤ (v_90747 : Int32).toInt ∧ (v_90747 : Int32).toInt ≤ 1 := nr_lt_r (⟨by decide, by decide⟩ : 0 ≤ (0 : Int32).toInt ∧ (0 : Int32).toInt ≤ 0) h_v_90747 c_90748_i (by decide) (by decide)
                  refine lv_aload_n hx hb dX6_bringsAll_54 rfl (lv_at hl 4 rfl) ?_
                  refine lv_iload hx hb dX6_bringsAll_55 (lv_at hl 0 rfl) ?_
                  refine lv_iload_n hx hb dX6_bringsAll_57 rfl (lv_at hl 3 rfl) ?_
                  refine lv_aload_n hx hb dX6_bringsAll_58 rfl (lv_at hl 5 rfl) ?_
                  have hPc := hP.sub (ws' := [(wO6 sv n co sv_keep sv_scaled), (wO2 n n_nodes n_kind n_pay n_name n_ways n_held n_targets n_weights), (wI g n_kind 0 12 n_fkind), (wI g n_pay 0 12 n_fpay), (wI g n_ways 0 12 n_fways), (wI g n_held 0 12 n_fheld), (wI g n_targets 0 36 n_ftargets), (wO10 vs vs_part vsw), (wJ g vs_part 1 12 vsp), (wI g sv_keep 0 12 kpf)]) [0, 1, 2, 3, 4, 5, 6, 7, 8, 9] rfl
                  refine vp_callSi (va_Run.run (va_runV (As := [.int x_90739, .int x_90740, .ref vs]) (rest := []) ⟨hx, hb, hml, hown, hts⟩ (c_X6_isBrought l D g sv x_90739 x_90740 vs n co sv_keep sv_scaled n_nodes n_kind n_pay n_name n_ways n_held n_targets n_weights n_fkind n_fpay n_fways n_fheld n_ftargets vs_part vsw vsp kpf (tr_w h_90743 (by decide) (by decide)) (tr_w h_90744 (by decide) (by decide)) (tr_wa h_n_fkind (by decide) (by decide)) (tr_wa h_n_fways (by decide) (by decide)) (tr_wa h_n_fheld (by decide) (by decide)) (tr_wa h_n_ftargets (by decide) (by decide))) (cwV 3 hts (tz_gV qw_589 qw_590 qw_591 qw_558 qw_592) rfl rfl rfl (by decide +kernel) ⟨Nat.le_of_ble_eq_true rfl, Nat.le_of_ble_eq_true rfl⟩) ⟨tz_blS, va_recv hK hPc (ci := 6) (q0 := 0) rfl rfl, tz_preS hPc hK⟩ rfl rfl hl.1 rfl (lv_room (Nat.le_of_ble_eq_true rfl)) dX6_bringsAll_59 ⟨Nat.le_of_ble_eq_true rfl, Nat.le_of_ble_eq_true rfl⟩)) (fun r_90752 hw => ?_)
                  have hw_90753 : 0 ≤ (r_90752 : Int32).toInt ∧ (r_90752 : Int32).toInt ≤ 1 := hw
                  refine lv_if_eq (tgt := 72) hx hb dX6_bringsAll_62 (by decide) (fun c_90754 => ?_) (fun c_90754 => ?_)
                  · skip
                    have c_90754_i : (r_90752 : Int32).toInt = (0 : Int32).toInt := congrArg Int32.toInt c_90754
                    have h_90755 : 0 ≤ (r_90752 : Int32).toInt ∧ (r_90752 : Int32).toInt ≤ 0 := nr_eq_l hw_90753 (⟨by decide, by decide⟩ : 0 ≤ (0 : Int32).toInt ∧ (0 : Int32).toInt ≤ 0) c_90754_i (by decide) (by decide)
                    obtain ⟨v_90757, v_90757_e⟩ : ∃ y : Int32, y = x_90739 + Int32.ofInt 1 := ⟨_, rfl⟩
                    have h_v_90757 : 1 ≤ (v_90757 : Int32).toInt ∧ (v_90757 : Int32).toInt ≤ 12 := by rw [v_90757_e]; exact tr_add h_90743 (⟨by decide, by decide⟩ : 1 ≤ (Int32.ofInt 1 : Int32).toInt ∧ (Int32.ofInt 1 : Int32).toInt ≤ 1) (by decide) (by decide) (by decide) (by decide)
                    have q_v_90757 : v_90757.toInt = x_90739.toInt + 1 := by rw [v_90757_e]; exact tr_addE h_90743 (⟨by decide, by decide⟩ : 1 ≤ (Int32.ofInt 1 : Int32).toInt ∧ (Int32.ofInt 1 : Int32).toInt ≤ 1) (by decide) (by decide)
                    refine lv_iinc (v := v_90757) (lv' := [(5, .int v_90757), (3, .int x_90305), (4, .int x_90303), (2, .int x_90740), (0, .ref sv), (1, .ref vs)]) hx hb dX6_bringsAll_72 hl (k := 0) rfl v_90757_e.symm (by decide) rfl (fun ls hl => ?_)
                    refine lv_goto (tgt := 30) hx hb dX6_bringsAll_75 (by decide) ?_
                    exact ih_90741 v_90757 x_90740 ls (tr_w h_v_90757 (by decide) (by decide)) (by (first | (clear h_x_90303 c_90307_i h_90309 h_v_90747 c_90748_i h_90750 hw_90753 c_90754_i h_90755; omega) | omega)) (lv_sub hl [0, 1, 2, 3, 4, 5] rfl)
                  · skip
                    have c_90754_i : ¬ (r_90752 : Int32).toInt = (0 : Int32).toInt := (fun q => c_90754 (Int32.toInt_inj.mp q))
                    have h_90756 : 1 ≤ (r_90752 : Int32).toInt ∧ (r_90752 : Int32).toInt ≤ 1 := nr_ne_l hw_90753 (⟨by decide, by decide⟩ : 0 ≤ (0 : Int32).toInt ∧ (0 : Int32).toInt ≤ 0) c_90754_i (by decide) (by decide)
                    refine lv_iload_n hx hb dX6_bringsAll_65 rfl (lv_at hl 3 rfl) ?_
                    refine lv_iconst (v := 1) hx hb dX6_bringsAll_66 (by decide) ?_
                    refine lv_iload hx hb dX6_bringsAll_67 (lv_at hl 0 rfl) ?_
                    refine lv_ishl hx hb dX6_bringsAll_69 ?_
                    refine lv_topi (fun v_90758 v_90758_e => ?_)
                    refine lv_ior hx hb dX6_bringsAll_70 ?_
                    refine lv_topi (fun v_90759 v_90759_e => ?_)
                    refine lv_istore_n (lv' := [(2, .int v_90759), (5, .int x_90739), (3, .int x_90305), (4, .int x_90303), (0, .ref sv), (1, .ref vs)]) hx hb dX6_bringsAll_71 rfl hl (by decide) rfl (fun ls hl => ?_)
                    obtain ⟨v_90760, v_90760_e⟩ : ∃ y : Int32, y = x_90739 + Int32.ofInt 1 := ⟨_, rfl⟩
                    have h_v_90760 : 1 ≤ (v_90760 : Int32).toInt ∧ (v_90760 : Int32).toInt ≤ 12 := by rw [v_90760_e]; exact tr_add h_90743 (⟨by decide, by decide⟩ : 1 ≤ (Int32.ofInt 1 : Int32).toInt ∧ (Int32.ofInt 1 : Int32).toInt ≤ 1) (by decide) (by decide) (by decide) (by decide)
                    have q_v_90760 : v_90760.toInt = x_90739.toInt + 1 := by rw [v_90760_e]; exact tr_addE h_90743 (⟨by decide, by decide⟩ : 1 ≤ (Int32.ofInt 1 : Int32).toInt ∧ (Int32.ofInt 1 : Int32).toInt ≤ 1) (by decide) (by decide)
                    refine lv_iinc (v := v_90760) (lv' := [(5, .int v_90760), (2, .int v_90759), (3, .int x_90305), (4, .int x_90303), (0, .ref sv), (1, .ref vs)]) hx hb dX6_bringsAll_72 hl (k := 1) rfl v_90760_e.symm (by decide) rfl (fun ls hl => ?_)
                    refine lv_goto (tgt := 30) hx hb dX6_bringsAll_75 (by decide) ?_
                    exact ih_90741 v_90760 v_90759 ls (tr_w h_v_90760 (by decide) (by decide)) (by (first | (clear h_x_90303 c_90307_i h_90309 h_v_90747 c_90748_i h_90750 hw_90753 c_90754_i h_90756; omega) | omega)) (lv_sub hl [0, 2, 3, 1, 4, 5] rfl)
          exact lp_90741 13 0 x_90305 ls (⟨by decide, by decide⟩ : 0 ≤ (0 : Int32).toInt ∧ (0 : Int32).toInt ≤ 12) (by decide) (lv_sub hl [0, 1, 2, 3, 4, 5] rfl)
  exact lp_90306 13 0 (-1) r_87620 ls (⟨by decide, by decide⟩ : 0 ≤ (0 : Int32).toInt ∧ (0 : Int32).toInt ≤ 12) (by decide) (lv_sub hl [0, 1, 2, 3, 4] rfl)
set_option maxHeartbeats 4000000 in
set_option maxRecDepth 100000 in
theorem c_X6_goodOf (l : Launch) (D : va_G) (g : Nat → ClassId) (sz : Nat) (sv : Nat) (p0 : Int32) (vs : Nat) (n : Nat) (co : Nat) (sv_keep : Nat) (sv_scaled : Nat) (n_nodes : Int32) (n_kind : Nat) (n_pay : Nat) (n_name : Nat) (n_ways : Nat) (n_held : Nat) (n_targets : Nat) (n_weights : Nat) (n_fkind : Nat → Int32) (n_fpay : Nat → Int32) (n_fways : Nat → Int32) (n_fheld : Nat → Int32) (n_ftargets : Nat → Int32) (vs_part : Nat) (vsw : Int64) (vsp : Nat → Int64) (kpf : Nat → Int32) (h_p0 : 0 ≤ (p0 : Int32).toInt ∧ (p0 : Int32).toInt ≤ 11) (h_n_nodes : 0 ≤ (n_nodes : Int32).toInt ∧ (n_nodes : Int32).toInt ≤ 12) (h_n_fkind : ∀ j : Nat, 0 ≤ (n_fkind j).toInt ∧ (n_fkind j).toInt ≤ 3) (h_n_fways : ∀ j : Nat, 0 ≤ (n_fways j).toInt ∧ (n_fways j).toInt ≤ 3) (h_n_fheld : ∀ j : Nat, (-1) ≤ (n_fheld j).toInt ∧ (n_fheld j).toInt ≤ 2) (h_n_ftargets : ∀ j : Nat, 0 ≤ (n_ftargets j).toInt ∧ (n_ftargets j).toInt ≤ 11) : Met l yX6_goodOf (.code yX6_goodOf cX6_goodOf 6 (some .int) :: wsL_law) ({ frames := 3, cells := 0, slots := 0, locals := 75 }) (va_Pc [.ref sv, .int p0, .ref vs] (fun U => U.heap.size = sz ∧ va_P D vwCl [(wO6 sv n co sv_keep sv_scaled), (wO2 n n_nodes n_kind n_pay n_name n_ways n_held n_targets n_weights), (wI g n_kind 0 12 n_fkind), (wI g n_pay 0 12 n_fpay), (wI g n_ways 0 12 n_fways), (wI g n_held 0 12 n_fheld), (wI g n_targets 0 36 n_ftargets), (wO10 vs vs_part vsw), (wJ g vs_part 1 12 vsp), (wI g sv_keep 0 12 kpf)] U.heap ∧ va_K D vwCl (TY g) U ∧ va_D (fun _ => True) [(wO6 sv n co sv_keep sv_scaled), (wO2 n n_nodes n_kind n_pay n_name n_ways n_held n_targets n_weights), (wI g n_kind 0 12 n_fkind), (wI g n_pay 0 12 n_fpay), (wI g n_ways 0 12 n_fways), (wI g n_held 0 12 n_fheld), (wI g n_targets 0 36 n_ftargets), (wO10 vs vs_part vsw), (wJ g vs_part 1 12 vsp), (wI g sv_keep 0 12 kpf)])) (va_Qi (fun r (_ : Unit) => True) (fun _ t => ∃ okp : Nat → Int32, va_P D vwCl [(wO6 sv n co sv_keep sv_scaled), (wO2 n n_nodes n_kind n_pay n_name n_ways n_held n_targets n_weights), (wI g n_kind 0 12 n_fkind), (wI g n_pay 0 12 n_fpay), (wI g n_ways 0 12 n_fways), (wI g n_held 0 12 n_fheld), (wI g n_targets 0 36 n_ftargets), (wO10 vs vs_part vsw), (wJ g vs_part 1 12 vsp), (wI g sv_keep 0 12 okp)] t.heap ∧ va_D (va_A [(wO6 sv n co sv_keep sv_scaled), (wO2 n n_nodes n_kind n_pay n_name n_ways n_held n_targets n_weights), (wI g n_kind 0 12 n_fkind), (wI g n_pay 0 12 n_fpay), (wI g n_ways 0 12 n_fways), (wI g n_held 0 12 n_fheld), (wI g n_targets 0 36 n_ftargets), (wO10 vs vs_part vsw), (wJ g vs_part 1 12 vsp), (wI g sv_keep 0 12 kpf)] sz) [(wO6 sv n co sv_keep sv_scaled), (wO2 n n_nodes n_kind n_pay n_name n_ways n_held n_targets n_weights), (wI g n_kind 0 12 n_fkind), (wI g n_pay 0 12 n_fpay), (wI g n_ways 0 12 n_fways), (wI g n_held 0 12 n_fheld), (wI g n_targets 0 36 n_ftargets), (wO10 vs vs_part vsw), (wJ g vs_part 1 12 vsp), (wI g sv_keep 0 12 okp)]) (va_A [(wO6 sv n co sv_keep sv_scaled), (wO2 n n_nodes n_kind n_pay n_name n_ways n_held n_targets n_weights), (wI g n_kind 0 12 n_fkind), (wI g n_pay 0 12 n_fpay), (wI g n_ways 0 12 n_fways), (wI g n_held 0 12 n_fheld), (wI g n_targets 0 36 n_ftargets), (wO10 vs vs_part vsw), (wJ g vs_part 1 12 vsp), (wI g sv_keep 0 12 kpf)] sz)) 0 0 (va_A [(wO6 sv n co sv_keep sv_scaled), (wO2 n n_nodes n_kind n_pay n_name n_ways n_held n_targets n_weights), (wI g n_kind 0 12 n_fkind), (wI g n_pay 0 12 n_fpay), (wI g n_ways 0 12 n_fways), (wI g n_held 0 12 n_fheld), (wI g n_targets 0 36 n_ftargets), (wO10 vs vs_part vsw), (wJ g vs_part 1 12 vsp), (wI g sv_keep 0 12 kpf)] sz) := by
  refine Met.ofW (cc := cX6_goodOf) (maxL := 6) (ret := (some .int)) (by decide) rfl ?_
  intro p e s m args below meth c s₁ B hml hv
  obtain ⟨ha, hsz, hP, hK, hD0⟩ := hv
  have hx := B.exec
  have hb := B.bytes
  have hr := B.returns
  have hts0 := atoms_spec (ws := (.code yX6_goodOf cX6_goodOf 6 (some .int) :: wsL_law)) B.pre
  have hts : ∀ w ∈ wsL_law, w.before args s = true := fun w h => hts0 w (List.mem_cons_of_mem _ h)
  have hown : s.vm.findClass RX6 = some m.cls := findClass_of_methodNamed B.named
  have hlocks := B.notSynchronized
  subst hsz
  have hD := hD0.self (sz := s.heap.size)
  generalize hAe : va_A [(wO6 sv n co sv_keep sv_scaled), (wO2 n n_nodes n_kind n_pay n_name n_ways n_held n_targets n_weights), (wI g n_kind 0 12 n_fkind), (wI g n_pay 0 12 n_fpay), (wI g n_ways 0 12 n_fways), (wI g n_held 0 12 n_fheld), (wI g n_targets 0 36 n_ftargets), (wO10 vs vs_part vsw), (wJ g vs_part 1 12 vsp), (wI g sv_keep 0 12 kpf)] s.heap.size = A at hD ⊢
  have hA : ∀ q : Nat, s.heap.size ≤ q → A q := fun q h => by rw [← hAe]; exact Or.inr h
  have hS : va_S A s.heap s.heap [] := va_S.rf
  have hP : va_P D vwCl [(wO6 sv n co sv_keep sv_scaled), (wO2 n n_nodes n_kind n_pay n_name n_ways n_held n_targets n_weights), (wI g n_kind 0 12 n_fkind), (wI g n_pay 0 12 n_fpay), (wI g n_ways 0 12 n_fways), (wI g n_held 0 12 n_fheld), (wI g n_targets 0 36 n_ftargets), (wO10 vs vs_part vsw), (wJ g vs_part 1 12 vsp), (wI g sv_keep 0 12 kpf)] s.heap := hP
  refine W.eq (g2 := entryFrame m ([.ref sv, .int p0, .ref vs] : List Value).toArray 6) (by rw [ha]) ?_
  have hl := lv_entry ([.ref sv, .int p0, .ref vs]) (n := 6) (Nat.le_of_ble_eq_true rfl)
  rw [lg_entry_eq]
  generalize (lg_sl ([.ref sv, .int p0, .ref vs]) ++ List.replicate (6 - (lg_sl ([.ref sv, .int p0, .ref vs])).length) Slot.unset).toArray = ls at hl ⊢
  have hl : lv_has ls 6 [(0, .ref sv), (1, .int p0), (2, .ref vs)] := hl
  refine lv_aload_n hx hb dX6_goodOf_0 rfl (lv_at hl 0 rfl) ?_
  refine va_get (D := D) (ci := 6) (v := .ref sv_keep) (C := RX6) (T := TX6) (N := 4) hx hb hts inlX6 hown hK hP 0 rfl rfl 2 (by decide) (hts (Cond.fieldLink RX6 9 "ChanceRings$Solver" "keep" "[I") qw_587) (fun _ h9 => h9) rfl dX6_goodOf_1 ?_
  refine lv_iload_n hx hb dX6_goodOf_4 rfl (lv_at hl 1 rfl) ?_
  refine va_iald hx hb hK hP 9 0 rfl rfl (tr_in h_p0 (by decide) (by decide)) dX6_goodOf_5 ?_
  refine lv_topi (fun v_90761 v_90761_e => ?_)
  refine lv_istore_n (lv' := [(3, .int v_90761), (0, .ref sv), (1, .int p0), (2, .ref vs)]) hx hb dX6_goodOf_6 rfl hl (by decide) rfl (fun ls hl => ?_)
  refine lv_aload_n hx hb dX6_goodOf_7 rfl (lv_at hl 1 rfl) ?_
  refine va_get (D := D) (ci := 6) (v := .ref n) (C := RX6) (T := TX6) (N := 4) hx hb hts inlX6 hown hK hP 0 rfl rfl 0 (by decide) (hts (Cond.fieldLink RX6 19 "ChanceRings$Solver" "net" "LChanceRings$Net;") qw_548) (fun _ h9 => h9) rfl dX6_goodOf_8 ?_
  refine va_get (D := D) (ci := 2) (v := .ref n_kind) (C := RX2) (T := TX2) (N := 8) hx hb hts inlX2 hown hK hP 1 rfl rfl 1 (by decide) (hts (Cond.fieldLink RX6 61 "ChanceRings$Net" "kind" "[I") qw_551) (fun _ h9 => h9) rfl dX6_goodOf_11 ?_
  refine lv_iload_n hx hb dX6_goodOf_14 rfl (lv_at hl 2 rfl) ?_
  refine va_iald hx hb hK hP 2 0 rfl rfl (tr_in h_p0 (by decide) (by decide)) dX6_goodOf_15 ?_
  refine lv_topi (fun v_90762 v_90762_e => ?_)
  have h_v_90762 : 0 ≤ (v_90762 : Int32).toInt ∧ (v_90762 : Int32).toInt ≤ 3 := by rw [v_90762_e]; exact h_n_fkind _
  refine lv_iconst (v := 2) hx hb dX6_goodOf_16 (by decide) ?_
  refine lv_icmp_ne (tgt := 22) hx hb dX6_goodOf_17 (by decide) (fun c_90763 => ?_) (fun c_90763 => ?_)
  · skip
    refine lv_iconst (v := 0) hx hb dX6_goodOf_22 (by decide) ?_
    refine lv_istore (lv' := [(4, .int 0), (3, .int v_90761), (0, .ref sv), (1, .int p0), (2, .ref vs)]) hx hb dX6_goodOf_23 hl (by decide) rfl (fun ls hl => ?_)
    refine lv_iconst (v := 0) hx hb dX6_goodOf_25 (by decide) ?_
    refine lv_istore (lv' := [(5, .int 0), (4, .int 0), (3, .int v_90761), (0, .ref sv), (1, .int p0), (2, .ref vs)]) hx hb dX6_goodOf_26 hl (by decide) rfl (fun ls hl => ?_)
    have lp_90855 : ∀ (n_90855 : Nat) (x_90852 : Int32) (f_90853 : Nat → Int32) (x_90854 : Int32) (H : Heap) (locs : List Loc) (ls : Array Slot), (0 ≤ (x_90852 : Int32).toInt ∧ (x_90852 : Int32).toInt ≤ 3) → (3 - x_90852.toInt < (n_90855 : Int)) → va_P D vwCl [(wO6 sv n co sv_keep sv_scaled), (wO2 n n_nodes n_kind n_pay n_name n_ways n_held n_targets n_weights), (wI g n_kind 0 12 n_fkind), (wI g n_pay 0 12 n_fpay), (wI g n_ways 0 12 n_fways), (wI g n_held 0 12 n_fheld), (wI g n_targets 0 36 n_ftargets), (wO10 vs vs_part vsw), (wJ g vs_part 1 12 vsp), (wI g sv_keep 0 12 f_90853)] H → va_D A [(wO6 sv n co sv_keep sv_scaled), (wO2 n n_nodes n_kind n_pay n_name n_ways n_held n_targets n_weights), (wI g n_kind 0 12 n_fkind), (wI g n_pay 0 12 n_fpay), (wI g n_ways 0 12 n_fways), (wI g n_held 0 12 n_fheld), (wI g n_targets 0 36 n_ftargets), (wO10 vs vs_part vsw), (wJ g vs_part 1 12 vsp), (wI g sv_keep 0 12 f_90853)] → va_S A s.heap H locs → lv_has ls 6 [(5, .int x_90852), (4, .int x_90854), (3, .int v_90761), (0, .ref sv), (1, .int p0), (2, .ref vs)] → W p l e (headSpec (.code yX6_goodOf cX6_goodOf 6 (some .int) :: wsL_law) ({ frames := 3, cells := 0, slots := 0, locals := 75 })).room s m args below meth c H locs 0 0 (MQ below (va_Qi (fun r (_ : Unit) => True) (fun _ t => ∃ okp : Nat → Int32, va_P D vwCl [(wO6 sv n co sv_keep sv_scaled), (wO2 n n_nodes n_kind n_pay n_name n_ways n_held n_targets n_weights), (wI g n_kind 0 12 n_fkind), (wI g n_pay 0 12 n_fpay), (wI g n_ways 0 12 n_fways), (wI g n_held 0 12 n_fheld), (wI g n_targets 0 36 n_ftargets), (wO10 vs vs_part vsw), (wJ g vs_part 1 12 vsp), (wI g sv_keep 0 12 okp)] t.heap ∧ va_D A [(wO6 sv n co sv_keep sv_scaled), (wO2 n n_nodes n_kind n_pay n_name n_ways n_held n_targets n_weights), (wI g n_kind 0 12 n_fkind), (wI g n_pay 0 12 n_fpay), (wI g n_ways 0 12 n_fways), (wI g n_held 0 12 n_fheld), (wI g n_targets 0 36 n_ftargets), (wO10 vs vs_part vsw), (wJ g vs_part 1 12 vsp), (wI g sv_keep 0 12 okp)]) A) args s 0 0 A) (F0 m 28 ls []) := by
      intro n_90855
      induction n_90855 with
      | zero =>
        intro x_90852 f_90853 x_90854 H locs ls h_x_90852 hm_90855 hP hD hS hl
        exfalso; omega
      | succ n_90855 ih_90855 =>
        intro x_90852 f_90853 x_90854 H locs ls h_x_90852 hm_90855 hP hD hS hl
        refine lv_iload hx hb dX6_goodOf_28 (lv_at hl 0 rfl) ?_
        refine lv_aload_n hx hb dX6_goodOf_30 rfl (lv_at hl 3 rfl) ?_
        refine va_get (D := D) (ci := 6) (v := .ref n) (C := RX6) (T := TX6) (N := 4) hx hb hts inlX6 hown hK hP 0 rfl rfl 0 (by decide) (hts (Cond.fieldLink RX6 19 "ChanceRings$Solver" "net" "LChanceRings$Net;") qw_548) (fun _ h9 => h9) rfl dX6_goodOf_31 ?_
        refine va_get (D := D) (ci := 2) (v := .ref n_ways) (C := RX2) (T := TX2) (N := 8) hx hb hts inlX2 hown hK hP 1 rfl rfl 4 (by decide) (hts (Cond.fieldLink RX6 68 "ChanceRings$Net" "ways" "[I") qw_552) (fun _ h9 => h9) rfl dX6_goodOf_34 ?_
        refine lv_iload_n hx hb dX6_goodOf_37 rfl (lv_at hl 4 rfl) ?_
        refine va_iald hx hb hK hP 4 0 rfl rfl (tr_in h_p0 (by decide) (by decide)) dX6_goodOf_38 ?_
        refine lv_topi (fun v_90856 v_90856_e => ?_)
        have h_v_90856 : 0 ≤ (v_90856 : Int32).toInt ∧ (v_90856 : Int32).toInt ≤ 3 := by rw [v_90856_e]; exact h_n_fways _
        refine lv_icmp_ge (tgt := 86) hx hb dX6_goodOf_39 (by decide) (fun c_90857 => ?_) (fun c_90857 => ?_)
        · skip
          refine lv_aload_n hx hb dX6_goodOf_86 rfl (lv_at hl 3 rfl) ?_
          refine va_get (D := D) (ci := 6) (v := .ref sv_keep) (C := RX6) (T := TX6) (N := 4) hx hb hts inlX6 hown hK hP 0 rfl rfl 2 (by decide) (hts (Cond.fieldLink RX6 9 "ChanceRings$Solver" "keep" "[I") qw_587) (fun _ h9 => h9) rfl dX6_goodOf_87 ?_
          refine lv_iload_n hx hb dX6_goodOf_90 rfl (lv_at hl 4 rfl) ?_
          refine lv_iload_n hx hb dX6_goodOf_91 rfl (lv_at hl 2 rfl) ?_
          refine va_iast hx hb hK hP hD hS 9 0 rfl rfl (tr_in h_p0 (by decide) (by decide)) dX6_goodOf_92 (fun H locs hP hD hS => ?_)
          obtain ⟨f_90860, hP, hD⟩ : ∃ FX : Nat → Int32, va_P D vwCl [(wO6 sv n co sv_keep sv_scaled), (wO2 n n_nodes n_kind n_pay n_name n_ways n_held n_targets n_weights), (wI g n_kind 0 12 n_fkind), (wI g n_pay 0 12 n_fpay), (wI g n_ways 0 12 n_fways), (wI g n_held 0 12 n_fheld), (wI g n_targets 0 36 n_ftargets), (wO10 vs vs_part vsw), (wJ g vs_part 1 12 vsp), (wI g sv_keep 0 12 FX)] H ∧ va_D A [(wO6 sv n co sv_keep sv_scaled), (wO2 n n_nodes n_kind n_pay n_name n_ways n_held n_targets n_weights), (wI g n_kind 0 12 n_fkind), (wI g n_pay 0 12 n_fpay), (wI g n_ways 0 12 n_fways), (wI g n_held 0 12 n_fheld), (wI g n_targets 0 36 n_ftargets), (wO10 vs vs_part vsw), (wJ g vs_part 1 12 vsp), (wI g sv_keep 0 12 FX)] := ⟨_, hP, hD⟩
          have hP : va_P D vwCl [(wO6 sv n co sv_keep sv_scaled), (wO2 n n_nodes n_kind n_pay n_name n_ways n_held n_targets n_weights), (wI g n_kind 0 12 n_fkind), (wI g n_pay 0 12 n_fpay), (wI g n_ways 0 12 n_fways), (wI g n_held 0 12 n_fheld), (wI g n_targets 0 36 n_ftargets), (wO10 vs vs_part vsw), (wJ g vs_part 1 12 vsp), (wI g sv_keep 0 12 f_90860)] H := hP
          have hD : va_D A [(wO6 sv n co sv_keep sv_scaled), (wO2 n n_nodes n_kind n_pay n_name n_ways n_held n_targets n_weights), (wI g n_kind 0 12 n_fkind), (wI g n_pay 0 12 n_fpay), (wI g n_ways 0 12 n_fways), (wI g n_held 0 12 n_fheld), (wI g n_targets 0 36 n_ftargets), (wO10 vs vs_part vsw), (wJ g vs_part 1 12 vsp), (wI g sv_keep 0 12 f_90860)] := hD
          refine lv_iload hx hb dX6_goodOf_93 (lv_at hl 1 rfl) ?_
          have hP9 := hP.sub (ws' := [(wO6 sv n co sv_keep sv_scaled), (wO2 n n_nodes n_kind n_pay n_name n_ways n_held n_targets n_weights), (wI g n_kind 0 12 n_fkind), (wI g n_pay 0 12 n_fpay), (wI g n_ways 0 12 n_fways), (wI g n_held 0 12 n_fheld), (wI g n_targets 0 36 n_ftargets), (wO10 vs vs_part vsw), (wJ g vs_part 1 12 vsp), (wI g sv_keep 0 12 f_90860)]) [0, 1, 2, 3, 4, 5, 6, 7, 8, 9] rfl
          have hD9 := hD.sub (ws' := [(wO6 sv n co sv_keep sv_scaled), (wO2 n n_nodes n_kind n_pay n_name n_ways n_held n_targets n_weights), (wI g n_kind 0 12 n_fkind), (wI g n_pay 0 12 n_fpay), (wI g n_ways 0 12 n_fways), (wI g n_held 0 12 n_fheld), (wI g n_targets 0 36 n_ftargets), (wO10 vs vs_part vsw), (wJ g vs_part 1 12 vsp), (wI g sv_keep 0 12 f_90860)]) [0, 1, 2, 3, 4, 5, 6, 7, 8, 9] (by decide) rfl
          exact W.iret (v := x_90854) hx hb hr (fun t ht hW => ⟨⟨x_90854, (), rfl, trivial, f_90860, by rw [ht]; exact hP9, hD9⟩, hS.F ht⟩) hS.2.2 dX6_goodOf_95
        · skip
          have c_90857_i := Int32.lt_iff_toInt_lt.mp (Int32.not_le.mp c_90857)
          have h_90858 : 0 ≤ (x_90852 : Int32).toInt ∧ (x_90852 : Int32).toInt ≤ 2 := nr_lt_l h_x_90852 h_v_90856 c_90857_i (by decide) (by decide)
          have h_90859 : 1 ≤ (v_90856 : Int32).toInt ∧ (v_90856 : Int32).toInt ≤ 3 := nr_lt_r h_x_90852 h_v_90856 c_90857_i (by decide) (by decide)
          refine lv_aload_n hx hb dX6_goodOf_42 rfl (lv_at hl 3 rfl) ?_
          refine va_get (D := D) (ci := 6) (v := .ref sv_keep) (C := RX6) (T := TX6) (N := 4) hx hb hts inlX6 hown hK hP 0 rfl rfl 2 (by decide) (hts (Cond.fieldLink RX6 9 "ChanceRings$Solver" "keep" "[I") qw_587) (fun _ h9 => h9) rfl dX6_goodOf_43 ?_
          refine lv_iload_n hx hb dX6_goodOf_46 rfl (lv_at hl 4 rfl) ?_
          refine lv_iload_n hx hb dX6_goodOf_47 rfl (lv_at hl 2 rfl) ?_
          refine lv_iconst (v := 1) hx hb dX6_goodOf_48 (by decide) ?_
          refine lv_iload hx hb dX6_goodOf_49 (lv_at hl 0 rfl) ?_
          refine lv_ishl hx hb dX6_goodOf_51 ?_
          refine lv_topi (fun v_90861 v_90861_e => ?_)
          refine lv_iand hx hb dX6_goodOf_52 ?_
          refine lv_topi (fun v_90862 v_90862_e => ?_)
          refine va_iast hx hb hK hP hD hS 9 0 rfl rfl (tr_in h_p0 (by decide) (by decide)) dX6_goodOf_53 (fun H locs hP hD hS => ?_)
          obtain ⟨f_90863, hP, hD⟩ : ∃ FX : Nat → Int32, va_P D vwCl [(wO6 sv n co sv_keep sv_scaled), (wO2 n n_nodes n_kind n_pay n_name n_ways n_held n_targets n_weights), (wI g n_kind 0 12 n_fkind), (wI g n_pay 0 12 n_fpay), (wI g n_ways 0 12 n_fways), (wI g n_held 0 12 n_fheld), (wI g n_targets 0 36 n_ftargets), (wO10 vs vs_part vsw), (wJ g vs_part 1 12 vsp), (wI g sv_keep 0 12 FX)] H ∧ va_D A [(wO6 sv n co sv_keep sv_scaled), (wO2 n n_nodes n_kind n_pay n_name n_ways n_held n_targets n_weights), (wI g n_kind 0 12 n_fkind), (wI g n_pay 0 12 n_fpay), (wI g n_ways 0 12 n_fways), (wI g n_held 0 12 n_fheld), (wI g n_targets 0 36 n_ftargets), (wO10 vs vs_part vsw), (wJ g vs_part 1 12 vsp), (wI g sv_keep 0 12 FX)] := ⟨_, hP, hD⟩
          have hP : va_P D vwCl [(wO6 sv n co sv_keep sv_scaled), (wO2 n n_nodes n_kind n_pay n_name n_ways n_held n_targets n_weights), (wI g n_kind 0 12 n_fkind), (wI g n_pay 0 12 n_fpay), (wI g n_ways 0 12 n_fways), (wI g n_held 0 12 n_fheld), (wI g n_targets 0 36 n_ftargets), (wO10 vs vs_part vsw), (wJ g vs_part 1 12 vsp), (wI g sv_keep 0 12 f_90863)] H := hP
          have hD : va_D A [(wO6 sv n co sv_keep sv_scaled), (wO2 n n_nodes n_kind n_pay n_name n_ways n_held n_targets n_weights), (wI g n_kind 0 12 n_fkind), (wI g n_pay 0 12 n_fpay), (wI g n_ways 0 12 n_fways), (wI g n_held 0 12 n_fheld), (wI g n_targets 0 36 n_ftargets), (wO10 vs vs_part vsw), (wJ g vs_part 1 12 vsp), (wI g sv_keep 0 12 f_90863)] := hD
          refine lv_aload_n hx hb dX6_goodOf_54 rfl (lv_at hl 3 rfl) ?_
          refine va_get (D := D) (ci := 6) (v := .ref sv_keep) (C := RX6) (T := TX6) (N := 4) hx hb hts inlX6 hown hK hP 0 rfl rfl 2 (by decide) (hts (Cond.fieldLink RX6 9 "ChanceRings$Solver" "keep" "[I") qw_587) (fun _ h9 => h9) rfl dX6_goodOf_55 ?_
          refine lv_iload_n hx hb dX6_goodOf_58 rfl (lv_at hl 4 rfl) ?_
          refine va_iald hx hb hK hP 9 0 rfl rfl (tr_in h_p0 (by decide) (by decide)) dX6_goodOf_59 ?_
          refine lv_topi (fun v_90864 v_90864_e => ?_)
          refine lv_if_eq (tgt := 80) hx hb dX6_goodOf_60 (by decide) (fun c_90865 => ?_) (fun c_90865 => ?_)
          · skip
            have h_90866 : 0 ≤ (v_90864 : Int32).toInt ∧ (v_90864 : Int32).toInt ≤ 0 := by rw [c_90865]; exact ⟨by decide, by decide⟩
            obtain ⟨v_90867, v_90867_e⟩ : ∃ y : Int32, y = x_90852 + Int32.ofInt 1 := ⟨_, rfl⟩
            have h_v_90867 : 1 ≤ (v_90867 : Int32).toInt ∧ (v_90867 : Int32).toInt ≤ 3 := by rw [v_90867_e]; exact tr_add h_90858 (⟨by decide, by decide⟩ : 1 ≤ (Int32.ofInt 1 : Int32).toInt ∧ (Int32.ofInt 1 : Int32).toInt ≤ 1) (by decide) (by decide) (by decide) (by decide)
            have q_v_90867 : v_90867.toInt = x_90852.toInt + 1 := by rw [v_90867_e]; exact tr_addE h_90858 (⟨by decide, by decide⟩ : 1 ≤ (Int32.ofInt 1 : Int32).toInt ∧ (Int32.ofInt 1 : Int32).toInt ≤ 1) (by decide) (by decide)
            refine lv_iinc (v := v_90867) (lv' := [(5, .int v_90867), (4, .int x_90854), (3, .int v_90761), (0, .ref sv), (1, .int p0), (2, .ref vs)]) hx hb dX6_goodOf_80 hl (k := 0) rfl v_90867_e.symm (by decide) rfl (fun ls hl => ?_)
            refine lv_goto (tgt := 28) hx hb dX6_goodOf_83 (by decide) ?_
            exact ih_90855 v_90867 f_90863 x_90854 H _ ls (tr_w h_v_90867 (by decide) (by decide)) (by (first | (clear h_p0 h_n_nodes h_v_90762 h_90866; omega) | omega)) (hP.sub [0, 1, 2, 3, 4, 5, 6, 7, 8, 9] rfl) (hD.sub [0, 1, 2, 3, 4, 5, 6, 7, 8, 9] (by decide) rfl) hS (lv_sub hl [0, 1, 2, 3, 4, 5] rfl)
          · skip
            refine lv_aload_n hx hb dX6_goodOf_63 rfl (lv_at hl 3 rfl) ?_
            refine lv_aload_n hx hb dX6_goodOf_64 rfl (lv_at hl 5 rfl) ?_
            have hPc := hP.sub (ws' := [(wO6 sv n co sv_keep sv_scaled), (wO2 n n_nodes n_kind n_pay n_name n_ways n_held n_targets n_weights), (wI g n_kind 0 12 n_fkind), (wI g n_pay 0 12 n_fpay), (wI g n_ways 0 12 n_fways), (wI g n_held 0 12 n_fheld), (wI g n_targets 0 36 n_ftargets), (wO10 vs vs_part vsw), (wJ g vs_part 1 12 vsp), (wI g sv_keep 0 12 f_90863)]) [0, 1, 2, 3, 4, 5, 6, 7, 8, 9] rfl
            refine vp_callSi (va_Run.run (va_runV (As := [.ref vs]) (rest := []) ⟨hx, hb, hml, hown, hts⟩ (c_X6_bringsAll l D g sv vs n co sv_keep sv_scaled n_nodes n_kind n_pay n_name n_ways n_held n_targets n_weights n_fkind n_fpay n_fways n_fheld n_ftargets vs_part vsw vsp f_90863 (tr_w h_n_nodes (by decide) (by decide)) (tr_wa h_n_fkind (by decide) (by decide)) (tr_wa h_n_fways (by decide) (by decide)) (tr_wa h_n_fheld (by decide) (by decide)) (tr_wa h_n_ftargets (by decide) (by decide))) (cwV 1 hts (tz_gV qw_593 qw_594 qw_595 qw_558 qw_596) rfl rfl rfl (by decide +kernel) ⟨Nat.le_of_ble_eq_true rfl, Nat.le_of_ble_eq_true rfl⟩) ⟨tz_blS, va_recv hK hPc (ci := 6) (q0 := 0) rfl rfl, tz_preS hPc hK⟩ rfl rfl hl.1 rfl (lv_room (Nat.le_of_ble_eq_true rfl)) dX6_goodOf_65 ⟨Nat.le_of_ble_eq_true rfl, Nat.le_of_ble_eq_true rfl⟩)) (fun r_90868 hw => ?_)
            have hw_90869 : 0 ≤ (r_90868 : Int32).toInt ∧ (r_90868 : Int32).toInt ≤ 1 := hw
            refine lv_if_eq (tgt := 80) hx hb dX6_goodOf_68 (by decide) (fun c_90870 => ?_) (fun c_90870 => ?_)
            · skip
              have c_90870_i : (r_90868 : Int32).toInt = (0 : Int32).toInt := congrArg Int32.toInt c_90870
              have h_90871 : 0 ≤ (r_90868 : Int32).toInt ∧ (r_90868 : Int32).toInt ≤ 0 := nr_eq_l hw_90869 (⟨by decide, by decide⟩ : 0 ≤ (0 : Int32).toInt ∧ (0 : Int32).toInt ≤ 0) c_90870_i (by decide) (by decide)
              obtain ⟨v_90873, v_90873_e⟩ : ∃ y : Int32, y = x_90852 + Int32.ofInt 1 := ⟨_, rfl⟩
              have h_v_90873 : 1 ≤ (v_90873 : Int32).toInt ∧ (v_90873 : Int32).toInt ≤ 3 := by rw [v_90873_e]; exact tr_add h_90858 (⟨by decide, by decide⟩ : 1 ≤ (Int32.ofInt 1 : Int32).toInt ∧ (Int32.ofInt 1 : Int32).toInt ≤ 1) (by decide) (by decide) (by decide) (by decide)
              have q_v_90873 : v_90873.toInt = x_90852.toInt + 1 := by rw [v_90873_e]; exact tr_addE h_90858 (⟨by decide, by decide⟩ : 1 ≤ (Int32.ofInt 1 : Int32).toInt ∧ (Int32.ofInt 1 : Int32).toInt ≤ 1) (by decide) (by decide)
              refine lv_iinc (v := v_90873) (lv' := [(5, .int v_90873), (4, .int x_90854), (3, .int v_90761), (0, .ref sv), (1, .int p0), (2, .ref vs)]) hx hb dX6_goodOf_80 hl (k := 0) rfl v_90873_e.symm (by decide) rfl (fun ls hl => ?_)
              refine lv_goto (tgt := 28) hx hb dX6_goodOf_83 (by decide) ?_
              exact ih_90855 v_90873 f_90863 x_90854 H _ ls (tr_w h_v_90873 (by decide) (by decide)) (by (first | (clear h_p0 h_n_nodes h_v_90762 hw_90869 c_90870_i h_90871; omega) | omega)) (hP.sub [0, 1, 2, 3, 4, 5, 6, 7, 8, 9] rfl) (hD.sub [0, 1, 2, 3, 4, 5, 6, 7, 8, 9] (by decide) rfl) hS (lv_sub hl [0, 1, 2, 3, 4, 5] rfl)
            · skip
              have c_90870_i : ¬ (r_90868 : Int32).toInt = (0 : Int32).toInt := (fun q => c_90870 (Int32.toInt_inj.mp q))
              have h_90872 : 1 ≤ (r_90868 : Int32).toInt ∧ (r_90868 : Int32).toInt ≤ 1 := nr_ne_l hw_90869 (⟨by decide, by decide⟩ : 0 ≤ (0 : Int32).toInt ∧ (0 : Int32).toInt ≤ 0) c_90870_i (by decide) (by decide)
              refine lv_iload hx hb dX6_goodOf_71 (lv_at hl 1 rfl) ?_
              refine lv_iconst (v := 1) hx hb dX6_goodOf_73 (by decide) ?_
              refine lv_iload hx hb dX6_goodOf_74 (lv_at hl 0 rfl) ?_
              refine lv_ishl hx hb dX6_goodOf_76 ?_
              refine lv_topi (fun v_90874 v_90874_e => ?_)
              refine lv_ior hx hb dX6_goodOf_77 ?_
              refine lv_topi (fun v_90875 v_90875_e => ?_)
              refine lv_istore (lv' := [(4, .int v_90875), (5, .int x_90852), (3, .int v_90761), (0, .ref sv), (1, .int p0), (2, .ref vs)]) hx hb dX6_goodOf_78 hl (by decide) rfl (fun ls hl => ?_)
              obtain ⟨v_90876, v_90876_e⟩ : ∃ y : Int32, y = x_90852 + Int32.ofInt 1 := ⟨_, rfl⟩
              have h_v_90876 : 1 ≤ (v_90876 : Int32).toInt ∧ (v_90876 : Int32).toInt ≤ 3 := by rw [v_90876_e]; exact tr_add h_90858 (⟨by decide, by decide⟩ : 1 ≤ (Int32.ofInt 1 : Int32).toInt ∧ (Int32.ofInt 1 : Int32).toInt ≤ 1) (by decide) (by decide) (by decide) (by decide)
              have q_v_90876 : v_90876.toInt = x_90852.toInt + 1 := by rw [v_90876_e]; exact tr_addE h_90858 (⟨by decide, by decide⟩ : 1 ≤ (Int32.ofInt 1 : Int32).toInt ∧ (Int32.ofInt 1 : Int32).toInt ≤ 1) (by decide) (by decide)
              refine lv_iinc (v := v_90876) (lv' := [(5, .int v_90876), (4, .int v_90875), (3, .int v_90761), (0, .ref sv), (1, .int p0), (2, .ref vs)]) hx hb dX6_goodOf_80 hl (k := 1) rfl v_90876_e.symm (by decide) rfl (fun ls hl => ?_)
              refine lv_goto (tgt := 28) hx hb dX6_goodOf_83 (by decide) ?_
              exact ih_90855 v_90876 f_90863 v_90875 H _ ls (tr_w h_v_90876 (by decide) (by decide)) (by (first | (clear h_p0 h_n_nodes h_v_90762 hw_90869 c_90870_i h_90872; omega) | omega)) (hP.sub [0, 1, 2, 3, 4, 5, 6, 7, 8, 9] rfl) (hD.sub [0, 1, 2, 3, 4, 5, 6, 7, 8, 9] (by decide) rfl) hS (lv_sub hl [0, 1, 2, 3, 4, 5] rfl)
    exact lp_90855 4 0 kpf 0 s.heap _ ls (⟨by decide, by decide⟩ : 0 ≤ (0 : Int32).toInt ∧ (0 : Int32).toInt ≤ 3) (by decide) (hP.sub [0, 1, 2, 3, 4, 5, 6, 7, 8, 9] rfl) (hD.sub [0, 1, 2, 3, 4, 5, 6, 7, 8, 9] (by decide) rfl) hS (lv_sub hl [0, 1, 2, 3, 4, 5] rfl)
  · skip
    have c_90763_i : (v_90762 : Int32).toInt = (2 : Int32).toInt := congrArg Int32.toInt c_90763
    have h_90764 : 2 ≤ (v_90762 : Int32).toInt ∧ (v_90762 : Int32).toInt ≤ 2 := nr_eq_l h_v_90762 (⟨by decide, by decide⟩ : 2 ≤ (2 : Int32).toInt ∧ (2 : Int32).toInt ≤ 2) c_90763_i (by decide) (by decide)
    refine lv_iload_n hx hb dX6_goodOf_20 rfl (lv_at hl 0 rfl) ?_
    have hP9 := hP.sub (ws' := [(wO6 sv n co sv_keep sv_scaled), (wO2 n n_nodes n_kind n_pay n_name n_ways n_held n_targets n_weights), (wI g n_kind 0 12 n_fkind), (wI g n_pay 0 12 n_fpay), (wI g n_ways 0 12 n_fways), (wI g n_held 0 12 n_fheld), (wI g n_targets 0 36 n_ftargets), (wO10 vs vs_part vsw), (wJ g vs_part 1 12 vsp), (wI g sv_keep 0 12 kpf)]) [0, 1, 2, 3, 4, 5, 6, 7, 8, 9] rfl
    have hD9 := hD.sub (ws' := [(wO6 sv n co sv_keep sv_scaled), (wO2 n n_nodes n_kind n_pay n_name n_ways n_held n_targets n_weights), (wI g n_kind 0 12 n_fkind), (wI g n_pay 0 12 n_fpay), (wI g n_ways 0 12 n_fways), (wI g n_held 0 12 n_fheld), (wI g n_targets 0 36 n_ftargets), (wO10 vs vs_part vsw), (wJ g vs_part 1 12 vsp), (wI g sv_keep 0 12 kpf)]) [0, 1, 2, 3, 4, 5, 6, 7, 8, 9] (by decide) rfl
    exact W.iret (v := v_90761) hx hb hr (fun t ht hW => ⟨⟨v_90761, (), rfl, trivial, kpf, by rw [ht]; exact hP9, hD9⟩, hS.F ht⟩) hS.2.2 dX6_goodOf_21
set_option maxHeartbeats 4000000 in
set_option maxRecDepth 100000 in
theorem c_X6_goodWays (l : Launch) (D : va_G) (g : Nat → ClassId) (sz : Nat) (sv : Nat) (p0 : Int32) (vs : Nat) (n : Nat) (co : Nat) (sv_keep : Nat) (sv_scaled : Nat) (n_nodes : Int32) (n_kind : Nat) (n_pay : Nat) (n_name : Nat) (n_ways : Nat) (n_held : Nat) (n_targets : Nat) (n_weights : Nat) (n_fkind : Nat → Int32) (n_fpay : Nat → Int32) (n_fways : Nat → Int32) (n_fheld : Nat → Int32) (n_ftargets : Nat → Int32) (vs_part : Nat) (vsw : Int64) (vsp : Nat → Int64) (kpf : Nat → Int32) (h_p0 : 0 ≤ (p0 : Int32).toInt ∧ (p0 : Int32).toInt ≤ 11) (h_n_nodes : 0 ≤ (n_nodes : Int32).toInt ∧ (n_nodes : Int32).toInt ≤ 12) (h_n_fkind : ∀ j : Nat, 0 ≤ (n_fkind j).toInt ∧ (n_fkind j).toInt ≤ 3) (h_n_fways : ∀ j : Nat, 0 ≤ (n_fways j).toInt ∧ (n_fways j).toInt ≤ 3) (h_n_fheld : ∀ j : Nat, (-1) ≤ (n_fheld j).toInt ∧ (n_fheld j).toInt ≤ 2) (h_n_ftargets : ∀ j : Nat, 0 ≤ (n_ftargets j).toInt ∧ (n_ftargets j).toInt ≤ 11) : Met l yX6_goodWays (.code yX6_goodWays cX6_goodWays 3 (some .int) :: wsL_law) ({ frames := 4, cells := 0, slots := 0, locals := 100 }) (va_Pc [.ref sv, .int p0, .ref vs] (fun U => U.heap.size = sz ∧ va_P D vwCl [(wO6 sv n co sv_keep sv_scaled), (wO2 n n_nodes n_kind n_pay n_name n_ways n_held n_targets n_weights), (wI g n_kind 0 12 n_fkind), (wI g n_pay 0 12 n_fpay), (wI g n_ways 0 12 n_fways), (wI g n_held 0 12 n_fheld), (wI g n_targets 0 36 n_ftargets), (wO10 vs vs_part vsw), (wJ g vs_part 1 12 vsp), (wI g sv_keep 0 12 kpf)] U.heap ∧ va_K D vwCl (TY g) U ∧ va_D (fun _ => True) [(wO6 sv n co sv_keep sv_scaled), (wO2 n n_nodes n_kind n_pay n_name n_ways n_held n_targets n_weights), (wI g n_kind 0 12 n_fkind), (wI g n_pay 0 12 n_fpay), (wI g n_ways 0 12 n_fways), (wI g n_held 0 12 n_fheld), (wI g n_targets 0 36 n_ftargets), (wO10 vs vs_part vsw), (wJ g vs_part 1 12 vsp), (wI g sv_keep 0 12 kpf)])) (va_Qi (fun r (_ : Unit) => True) (fun _ t => ∃ okp : Nat → Int32, va_P D vwCl [(wO6 sv n co sv_keep sv_scaled), (wO2 n n_nodes n_kind n_pay n_name n_ways n_held n_targets n_weights), (wI g n_kind 0 12 n_fkind), (wI g n_pay 0 12 n_fpay), (wI g n_ways 0 12 n_fways), (wI g n_held 0 12 n_fheld), (wI g n_targets 0 36 n_ftargets), (wO10 vs vs_part vsw), (wJ g vs_part 1 12 vsp), (wI g sv_keep 0 12 okp)] t.heap ∧ va_D (va_A [(wO6 sv n co sv_keep sv_scaled), (wO2 n n_nodes n_kind n_pay n_name n_ways n_held n_targets n_weights), (wI g n_kind 0 12 n_fkind), (wI g n_pay 0 12 n_fpay), (wI g n_ways 0 12 n_fways), (wI g n_held 0 12 n_fheld), (wI g n_targets 0 36 n_ftargets), (wO10 vs vs_part vsw), (wJ g vs_part 1 12 vsp), (wI g sv_keep 0 12 kpf)] sz) [(wO6 sv n co sv_keep sv_scaled), (wO2 n n_nodes n_kind n_pay n_name n_ways n_held n_targets n_weights), (wI g n_kind 0 12 n_fkind), (wI g n_pay 0 12 n_fpay), (wI g n_ways 0 12 n_fways), (wI g n_held 0 12 n_fheld), (wI g n_targets 0 36 n_ftargets), (wO10 vs vs_part vsw), (wJ g vs_part 1 12 vsp), (wI g sv_keep 0 12 okp)]) (va_A [(wO6 sv n co sv_keep sv_scaled), (wO2 n n_nodes n_kind n_pay n_name n_ways n_held n_targets n_weights), (wI g n_kind 0 12 n_fkind), (wI g n_pay 0 12 n_fpay), (wI g n_ways 0 12 n_fways), (wI g n_held 0 12 n_fheld), (wI g n_targets 0 36 n_ftargets), (wO10 vs vs_part vsw), (wJ g vs_part 1 12 vsp), (wI g sv_keep 0 12 kpf)] sz)) 0 0 (va_A [(wO6 sv n co sv_keep sv_scaled), (wO2 n n_nodes n_kind n_pay n_name n_ways n_held n_targets n_weights), (wI g n_kind 0 12 n_fkind), (wI g n_pay 0 12 n_fpay), (wI g n_ways 0 12 n_fways), (wI g n_held 0 12 n_fheld), (wI g n_targets 0 36 n_ftargets), (wO10 vs vs_part vsw), (wJ g vs_part 1 12 vsp), (wI g sv_keep 0 12 kpf)] sz) := by
  refine Met.ofW (cc := cX6_goodWays) (maxL := 3) (ret := (some .int)) (by decide) rfl ?_
  intro p e s m args below meth c s₁ B hml hv
  obtain ⟨ha, hsz, hP, hK, hD0⟩ := hv
  have hx := B.exec
  have hb := B.bytes
  have hr := B.returns
  have hts0 := atoms_spec (ws := (.code yX6_goodWays cX6_goodWays 3 (some .int) :: wsL_law)) B.pre
  have hts : ∀ w ∈ wsL_law, w.before args s = true := fun w h => hts0 w (List.mem_cons_of_mem _ h)
  have hown : s.vm.findClass RX6 = some m.cls := findClass_of_methodNamed B.named
  have hlocks := B.notSynchronized
  subst hsz
  have hD := hD0.self (sz := s.heap.size)
  generalize hAe : va_A [(wO6 sv n co sv_keep sv_scaled), (wO2 n n_nodes n_kind n_pay n_name n_ways n_held n_targets n_weights), (wI g n_kind 0 12 n_fkind), (wI g n_pay 0 12 n_fpay), (wI g n_ways 0 12 n_fways), (wI g n_held 0 12 n_fheld), (wI g n_targets 0 36 n_ftargets), (wO10 vs vs_part vsw), (wJ g vs_part 1 12 vsp), (wI g sv_keep 0 12 kpf)] s.heap.size = A at hD ⊢
  have hA : ∀ q : Nat, s.heap.size ≤ q → A q := fun q h => by rw [← hAe]; exact Or.inr h
  have hS : va_S A s.heap s.heap [] := va_S.rf
  have hP : va_P D vwCl [(wO6 sv n co sv_keep sv_scaled), (wO2 n n_nodes n_kind n_pay n_name n_ways n_held n_targets n_weights), (wI g n_kind 0 12 n_fkind), (wI g n_pay 0 12 n_fpay), (wI g n_ways 0 12 n_fways), (wI g n_held 0 12 n_fheld), (wI g n_targets 0 36 n_ftargets), (wO10 vs vs_part vsw), (wJ g vs_part 1 12 vsp), (wI g sv_keep 0 12 kpf)] s.heap := hP
  refine W.eq (g2 := entryFrame m ([.ref sv, .int p0, .ref vs] : List Value).toArray 3) (by rw [ha]) ?_
  have hl := lv_entry ([.ref sv, .int p0, .ref vs]) (n := 3) (Nat.le_of_ble_eq_true rfl)
  rw [lg_entry_eq]
  generalize (lg_sl ([.ref sv, .int p0, .ref vs]) ++ List.replicate (3 - (lg_sl ([.ref sv, .int p0, .ref vs])).length) Slot.unset).toArray = ls at hl ⊢
  have hl : lv_has ls 3 [(0, .ref sv), (1, .int p0), (2, .ref vs)] := hl
  refine lv_aload_n hx hb dX6_goodWays_0 rfl (lv_at hl 0 rfl) ?_
  refine lv_aload_n hx hb dX6_goodWays_1 rfl (lv_at hl 2 rfl) ?_
  have hPc := hP.sub (ws' := [(wO6 sv n co sv_keep sv_scaled), (wO2 n n_nodes n_kind n_pay n_name n_ways n_held n_targets n_weights), (wI g n_kind 0 12 n_fkind), (wI g n_pay 0 12 n_fpay), (wI g n_ways 0 12 n_fways), (wI g n_held 0 12 n_fheld), (wI g n_targets 0 36 n_ftargets), (wO10 vs vs_part vsw), (wJ g vs_part 1 12 vsp), (wI g sv_keep 0 12 kpf)]) [0, 1, 2, 3, 4, 5, 6, 7, 8, 9] rfl
  have hDc := hD.sub (ws' := [(wO6 sv n co sv_keep sv_scaled), (wO2 n n_nodes n_kind n_pay n_name n_ways n_held n_targets n_weights), (wI g n_kind 0 12 n_fkind), (wI g n_pay 0 12 n_fpay), (wI g n_ways 0 12 n_fways), (wI g n_held 0 12 n_fheld), (wI g n_targets 0 36 n_ftargets), (wO10 vs vs_part vsw), (wJ g vs_part 1 12 vsp), (wI g sv_keep 0 12 kpf)]) [0, 1, 2, 3, 4, 5, 6, 7, 8, 9] (by decide) rfl
  have hFc := va_free (wc := [(wO6 sv n co sv_keep sv_scaled), (wO2 n n_nodes n_kind n_pay n_name n_ways n_held n_targets n_weights), (wI g n_kind 0 12 n_fkind), (wI g n_pay 0 12 n_fpay), (wI g n_ways 0 12 n_fways), (wI g n_held 0 12 n_fheld), (wI g n_targets 0 36 n_ftargets), (wO10 vs vs_part vsw), (wJ g vs_part 1 12 vsp), (wI g sv_keep 0 12 kpf)]) hD hS hA [0, 1, 2, 3, 4, 5, 6, 7, 8, 9] rfl
  refine va_callv (va_runV (As := [.ref vs]) (rest := []) ⟨hx, hb, hml, hown, hts⟩ (c_X6_keepEven l D g s.heap.size sv vs n co sv_keep sv_scaled n_nodes n_kind n_pay n_name n_ways n_held n_targets n_weights n_fkind n_fpay n_fways n_fheld n_ftargets vs_part vsw vsp kpf (tr_w h_n_nodes (by decide) (by decide)) (tr_wa h_n_fkind (by decide) (by decide)) (tr_wa h_n_fways (by decide) (by decide)) (tr_wa h_n_fheld (by decide) (by decide)) (tr_wa h_n_ftargets (by decide) (by decide))) (cwV 1 hts (tz_gV qw_597 qw_598 qw_599 qw_558 qw_600) rfl rfl rfl (by decide +kernel) ⟨Nat.le_of_ble_eq_true rfl, Nat.le_of_ble_eq_true rfl⟩) ⟨tz_blQ, va_recv hK hPc (ci := 6) (q0 := 0) rfl rfl, tz_preQ hPc hK hDc⟩ rfl rfl hl.1 rfl (lv_room (Nat.le_of_ble_eq_true rfl)) dX6_goodWays_2 ⟨Nat.le_of_ble_eq_true rfl, Nat.le_of_ble_eq_true rfl⟩) hS (fun q _ h => hFc q h) hFc (fun u t H1 locs ht hvm hw hB hz1 hk1 hS => ?_)
  obtain ⟨okp_90878, hP1, hD1⟩ := hB
  rw [ht] at hP1
  obtain ⟨hP, hD⟩ := va_join (wr := []) (w1 := [(wO6 sv n co sv_keep sv_scaled), (wO2 n n_nodes n_kind n_pay n_name n_ways n_held n_targets n_weights), (wI g n_kind 0 12 n_fkind), (wI g n_pay 0 12 n_fpay), (wI g n_ways 0 12 n_fways), (wI g n_held 0 12 n_fheld), (wI g n_targets 0 36 n_ftargets), (wO10 vs vs_part vsw), (wJ g vs_part 1 12 vsp), (wI g sv_keep 0 12 okp_90878)]) hP hD [0, 1, 2, 3, 4, 5, 6, 7, 8, 9] [] rfl rfl (by decide) (by decide) hk1 hFc hP1 hD1
  generalize H1 = H at hP hS ⊢
  have hP : va_P D vwCl [(wO6 sv n co sv_keep sv_scaled), (wO2 n n_nodes n_kind n_pay n_name n_ways n_held n_targets n_weights), (wI g n_kind 0 12 n_fkind), (wI g n_pay 0 12 n_fpay), (wI g n_ways 0 12 n_fways), (wI g n_held 0 12 n_fheld), (wI g n_targets 0 36 n_ftargets), (wO10 vs vs_part vsw), (wJ g vs_part 1 12 vsp), (wI g sv_keep 0 12 okp_90878)] H := hP
  have hD : va_D A [(wO6 sv n co sv_keep sv_scaled), (wO2 n n_nodes n_kind n_pay n_name n_ways n_held n_targets n_weights), (wI g n_kind 0 12 n_fkind), (wI g n_pay 0 12 n_fpay), (wI g n_ways 0 12 n_fways), (wI g n_held 0 12 n_fheld), (wI g n_targets 0 36 n_ftargets), (wO10 vs vs_part vsw), (wJ g vs_part 1 12 vsp), (wI g sv_keep 0 12 okp_90878)] := hD
  refine lv_aload_n hx hb dX6_goodWays_5 rfl (lv_at hl 0 rfl) ?_
  refine lv_iload_n hx hb dX6_goodWays_6 rfl (lv_at hl 1 rfl) ?_
  refine lv_aload_n hx hb dX6_goodWays_7 rfl (lv_at hl 2 rfl) ?_
  have hPc := hP.sub (ws' := [(wO6 sv n co sv_keep sv_scaled), (wO2 n n_nodes n_kind n_pay n_name n_ways n_held n_targets n_weights), (wI g n_kind 0 12 n_fkind), (wI g n_pay 0 12 n_fpay), (wI g n_ways 0 12 n_fways), (wI g n_held 0 12 n_fheld), (wI g n_targets 0 36 n_ftargets), (wO10 vs vs_part vsw), (wJ g vs_part 1 12 vsp), (wI g sv_keep 0 12 okp_90878)]) [0, 1, 2, 3, 4, 5, 6, 7, 8, 9] rfl
  have hDc := hD.sub (ws' := [(wO6 sv n co sv_keep sv_scaled), (wO2 n n_nodes n_kind n_pay n_name n_ways n_held n_targets n_weights), (wI g n_kind 0 12 n_fkind), (wI g n_pay 0 12 n_fpay), (wI g n_ways 0 12 n_fways), (wI g n_held 0 12 n_fheld), (wI g n_targets 0 36 n_ftargets), (wO10 vs vs_part vsw), (wJ g vs_part 1 12 vsp), (wI g sv_keep 0 12 okp_90878)]) [0, 1, 2, 3, 4, 5, 6, 7, 8, 9] (by decide) rfl
  have hFc := va_free (wc := [(wO6 sv n co sv_keep sv_scaled), (wO2 n n_nodes n_kind n_pay n_name n_ways n_held n_targets n_weights), (wI g n_kind 0 12 n_fkind), (wI g n_pay 0 12 n_fpay), (wI g n_ways 0 12 n_fways), (wI g n_held 0 12 n_fheld), (wI g n_targets 0 36 n_ftargets), (wO10 vs vs_part vsw), (wJ g vs_part 1 12 vsp), (wI g sv_keep 0 12 okp_90878)]) hD hS hA [0, 1, 2, 3, 4, 5, 6, 7, 8, 9] rfl
  refine va_calli (va_runV (As := [.int p0, .ref vs]) (rest := []) ⟨hx, hb, hml, hown, hts⟩ (c_X6_goodOf l D g H.size sv p0 vs n co sv_keep sv_scaled n_nodes n_kind n_pay n_name n_ways n_held n_targets n_weights n_fkind n_fpay n_fways n_fheld n_ftargets vs_part vsw vsp okp_90878 (tr_w h_p0 (by decide) (by decide)) (tr_w h_n_nodes (by decide) (by decide)) (tr_wa h_n_fkind (by decide) (by decide)) (tr_wa h_n_fways (by decide) (by decide)) (tr_wa h_n_fheld (by decide) (by decide)) (tr_wa h_n_ftargets (by decide) (by decide))) (cwV 2 hts (tz_gV qw_601 qw_602 qw_603 qw_558 qw_604) rfl rfl rfl (by decide +kernel) ⟨Nat.le_of_ble_eq_true rfl, Nat.le_of_ble_eq_true rfl⟩) ⟨tz_blQ, va_recv hK hPc (ci := 6) (q0 := 0) rfl rfl, tz_preQ hPc hK hDc⟩ rfl rfl hl.1 rfl (lv_room (Nat.le_of_ble_eq_true rfl)) dX6_goodWays_8 ⟨Nat.le_of_ble_eq_true rfl, Nat.le_of_ble_eq_true rfl⟩) hS (fun q _ h => hFc q h) hFc (fun r_90879 u t H1 locs ht hvm hw hB hz1 hk1 hS => ?_)
  obtain ⟨okp_90880, hP1, hD1⟩ := hB
  rw [ht] at hP1
  obtain ⟨hP, hD⟩ := va_join (wr := []) (w1 := [(wO6 sv n co sv_keep sv_scaled), (wO2 n n_nodes n_kind n_pay n_name n_ways n_held n_targets n_weights), (wI g n_kind 0 12 n_fkind), (wI g n_pay 0 12 n_fpay), (wI g n_ways 0 12 n_fways), (wI g n_held 0 12 n_fheld), (wI g n_targets 0 36 n_ftargets), (wO10 vs vs_part vsw), (wJ g vs_part 1 12 vsp), (wI g sv_keep 0 12 okp_90880)]) hP hD [0, 1, 2, 3, 4, 5, 6, 7, 8, 9] [] rfl rfl (by decide) (by decide) hk1 hFc hP1 hD1
  generalize H1 = H at hP hS ⊢
  have hP : va_P D vwCl [(wO6 sv n co sv_keep sv_scaled), (wO2 n n_nodes n_kind n_pay n_name n_ways n_held n_targets n_weights), (wI g n_kind 0 12 n_fkind), (wI g n_pay 0 12 n_fpay), (wI g n_ways 0 12 n_fways), (wI g n_held 0 12 n_fheld), (wI g n_targets 0 36 n_ftargets), (wO10 vs vs_part vsw), (wJ g vs_part 1 12 vsp), (wI g sv_keep 0 12 okp_90880)] H := hP
  have hD : va_D A [(wO6 sv n co sv_keep sv_scaled), (wO2 n n_nodes n_kind n_pay n_name n_ways n_held n_targets n_weights), (wI g n_kind 0 12 n_fkind), (wI g n_pay 0 12 n_fpay), (wI g n_ways 0 12 n_fways), (wI g n_held 0 12 n_fheld), (wI g n_targets 0 36 n_ftargets), (wO10 vs vs_part vsw), (wJ g vs_part 1 12 vsp), (wI g sv_keep 0 12 okp_90880)] := hD
  have hP9 := hP.sub (ws' := [(wO6 sv n co sv_keep sv_scaled), (wO2 n n_nodes n_kind n_pay n_name n_ways n_held n_targets n_weights), (wI g n_kind 0 12 n_fkind), (wI g n_pay 0 12 n_fpay), (wI g n_ways 0 12 n_fways), (wI g n_held 0 12 n_fheld), (wI g n_targets 0 36 n_ftargets), (wO10 vs vs_part vsw), (wJ g vs_part 1 12 vsp), (wI g sv_keep 0 12 okp_90880)]) [0, 1, 2, 3, 4, 5, 6, 7, 8, 9] rfl
  have hD9 := hD.sub (ws' := [(wO6 sv n co sv_keep sv_scaled), (wO2 n n_nodes n_kind n_pay n_name n_ways n_held n_targets n_weights), (wI g n_kind 0 12 n_fkind), (wI g n_pay 0 12 n_fpay), (wI g n_ways 0 12 n_fways), (wI g n_held 0 12 n_fheld), (wI g n_targets 0 36 n_ftargets), (wO10 vs vs_part vsw), (wJ g vs_part 1 12 vsp), (wI g sv_keep 0 12 okp_90880)]) [0, 1, 2, 3, 4, 5, 6, 7, 8, 9] (by decide) rfl
  exact W.iret (v := r_90879) hx hb hr (fun t ht hW => ⟨⟨r_90879, (), rfl, trivial, okp_90880, by rw [ht]; exact hP9, hD9⟩, hS.F ht⟩) hS.2.2 dX6_goodWays_11
