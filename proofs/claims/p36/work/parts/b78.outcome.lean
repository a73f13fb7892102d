theorem qw_636 : Cond.fieldLink RX3 31 "ChanceRings$Outcome" "net" "LChanceRings$Net;" ∈ wsL_law := tseg_2 (by decide +kernel) (List.mem_of_getElem? (i := 101) rfl)
theorem qw_637 : Cond.fieldLink RX3 63 "ChanceRings$Net" "nodes" "I" ∈ wsL_law := tseg_1 (by decide +kernel) (List.mem_of_getElem? (i := 59) rfl)
theorem qw_638 : Cond.fieldLink RX3 25 "ChanceRings$Outcome" "reach" "[I" ∈ wsL_law := tseg_2 (by decide +kernel) (List.mem_of_getElem? (i := 109) rfl)
theorem qw_639 : Cond.fieldLink RX3 35 "ChanceRings$Outcome" "solver" "LChanceRings$Solver;" ∈ wsL_law := tseg_2 (by decide +kernel) (List.mem_of_getElem? (i := 102) rfl)
theorem qw_640 : Cond.fieldLink RX3 73 "ChanceRings$Solver" "course" "LChanceRings$Course;" ∈ wsL_law := tseg_2 (by decide +kernel) (List.mem_of_getElem? (i := 63) rfl)
theorem qw_641 : Cond.fieldLink RX3 9 "ChanceRings$Outcome" "plan" "[I" ∈ wsL_law := tseg_2 (by decide +kernel) (List.mem_of_getElem? (i := 103) rfl)
theorem qw_642 : Cond.methodLink RX3 83 yX0_follow ∈ wsL_law := tseg_3 (by decide +kernel) (List.mem_of_getElem? (i := 204) rfl)
theorem qw_643 : Cond.fieldLink RX3 96 "ChanceRings$Net" "kind" "[I" ∈ wsL_law := tseg_1 (by decide +kernel) (List.mem_of_getElem? (i := 67) rfl)
theorem qw_644 : Cond.fieldLink RX3 90 "ChanceRings$Outcome" "ringNodes" "I" ∈ wsL_law := tseg_2 (by decide +kernel) (List.mem_of_getElem? (i := 114) rfl)
theorem qw_645 : Cond.fieldLink RX3 87 "ChanceRings$Outcome" "ringCount" "I" ∈ wsL_law := tseg_2 (by decide +kernel) (List.mem_of_getElem? (i := 112) rfl)
theorem qw_646 : Cond.methodLink RX3 93 yX3_comesBack ∈ wsL_law := tseg_3 (by decide +kernel) (List.mem_of_getElem? (i := 209) rfl)
theorem qw_647 : Cond.instanceMethod yX3_comesBack ∈ wsL_law := tseg_3 (by decide +kernel) (List.mem_of_getElem? (i := 211) rfl)
theorem qw_648 : Cond.selects RX3 yX3_comesBack yX3_comesBack ∈ wsL_law := List.mem_filter.mpr ⟨List.mem_append_left _ (List.mem_of_getElem? (i := 30) rfl), by decide +kernel⟩
theorem qw_649 : Cond.initialized RX3 ∈ wsL_law := tseg_1 (by decide +kernel) (List.mem_of_getElem? (i := 15) rfl)
theorem qw_650 : Cond.code yX3_comesBack cX3_comesBack 3 (some .boolean) ∈ wsL_law := tseg_3 (by decide +kernel) (List.mem_of_getElem? (i := 212) rfl)
theorem qw_651 : Cond.fieldLink RX3 28 "ChanceRings$Outcome" "ringBits" "[I" ∈ wsL_law := tseg_2 (by decide +kernel) (List.mem_of_getElem? (i := 110) rfl)
theorem qw_652 : Cond.fieldLink RX3 18 "ChanceRings$Outcome" "worth" "LChanceRings$Values;" ∈ wsL_law := tseg_2 (by decide +kernel) (List.mem_of_getElem? (i := 105) rfl)
theorem qw_653 : Cond.fieldLink RX3 99 "ChanceRings$Values" "part" "[J" ∈ wsL_law := tseg_2 (by decide +kernel) (List.mem_of_getElem? (i := 89) rfl)
theorem qw_654 : Cond.methodLink RX3 103 yX3_countAhead ∈ wsL_law := tseg_4 (by decide +kernel) (List.mem_of_getElem? (i := 97) rfl)
theorem qw_655 : Cond.instanceMethod yX3_countAhead ∈ wsL_law := tseg_4 (by decide +kernel) (List.mem_of_getElem? (i := 99) rfl)
theorem qw_656 : Cond.selects RX3 yX3_countAhead yX3_countAhead ∈ wsL_law := List.mem_filter.mpr ⟨List.mem_append_left _ (List.mem_of_getElem? (i := 35) rfl), by decide +kernel⟩
theorem qw_657 : Cond.code yX3_countAhead cX3_countAhead 4 (some .int) ∈ wsL_law := tseg_4 (by decide +kernel) (List.mem_of_getElem? (i := 100) rfl)
theorem qw_658 : Cond.methodLink RX3 115 yX2_together ∈ wsL_law := tseg_4 (by decide +kernel) (List.mem_of_getElem? (i := 160) rfl)
theorem qw_659 : Cond.fieldLink RX3 118 "ChanceRings$Net" "ways" "[I" ∈ wsL_law := tseg_1 (by decide +kernel) (List.mem_of_getElem? (i := 84) rfl)
theorem qw_660 : Cond.methodLink RX3 121 yX2_weight ∈ wsL_law := tseg_4 (by decide +kernel) (List.mem_of_getElem? (i := 161) rfl)
theorem qw_661 : Cond.methodLink RX3 112 yX2_target ∈ wsL_law := tseg_4 (by decide +kernel) (List.mem_of_getElem? (i := 162) rfl)
theorem qw_662 : Cond.constant RX3 107 (1103515245) ∈ wsL_law := tseg_4 (by decide +kernel) (List.mem_of_getElem? (i := 155) rfl)
theorem qw_663 : Cond.methodLink RX3 108 yX3_drawnWay ∈ wsL_law := tseg_4 (by decide +kernel) (List.mem_of_getElem? (i := 156) rfl)
theorem qw_664 : Cond.instanceMethod yX3_drawnWay ∈ wsL_law := tseg_4 (by decide +kernel) (List.mem_of_getElem? (i := 158) rfl)
theorem qw_665 : Cond.selects RX3 yX3_drawnWay yX3_drawnWay ∈ wsL_law := List.mem_filter.mpr ⟨List.mem_append_left _ (List.mem_of_getElem? (i := 41) rfl), by decide +kernel⟩
theorem qw_666 : Cond.code yX3_drawnWay cX3_drawnWay 7 (some .int) ∈ wsL_law := tseg_4 (by decide +kernel) (List.mem_of_getElem? (i := 159) rfl)
theorem qw_667 : Cond.fieldLink RX3 39 "ChanceRings$Outcome" "settled" "Z" ∈ wsL_law := tseg_2 (by decide +kernel) (List.mem_of_getElem? (i := 115) rfl)
theorem qw_668 : Cond.methodLink RX3 43 yX6_firstWays ∈ wsL_law := tseg_3 (by decide +kernel) (List.mem_of_getElem? (i := 92) rfl)
theorem qw_669 : Cond.instanceMethod yX6_firstWays ∈ wsL_law := tseg_3 (by decide +kernel) (List.mem_of_getElem? (i := 69) rfl)
theorem qw_670 : Cond.selects RX6 yX6_firstWays yX6_firstWays ∈ wsL_law := tseg_3 (by decide +kernel) (List.mem_of_getElem? (i := 70) rfl)
theorem qw_671 : Cond.code yX6_firstWays cX6_firstWays 3 none ∈ wsL_law := tseg_3 (by decide +kernel) (List.mem_of_getElem? (i := 71) rfl)
theorem qw_672 : Cond.methodLink RX3 49 yX6_findWorth ∈ wsL_law := tseg_3 (by decide +kernel) (List.mem_of_getElem? (i := 93) rfl)
theorem qw_673 : Cond.instanceMethod yX6_findWorth ∈ wsL_law := tseg_3 (by decide +kernel) (List.mem_of_getElem? (i := 94) rfl)
theorem qw_674 : Cond.selects RX6 yX6_findWorth yX6_findWorth ∈ wsL_law := tseg_3 (by decide +kernel) (List.mem_of_getElem? (i := 95) rfl)
theorem qw_675 : Cond.code yX6_findWorth cX6_findWorth 7 none ∈ wsL_law := tseg_3 (by decide +kernel) (List.mem_of_getElem? (i := 96) rfl)
theorem qw_676 : Cond.methodLink RX3 53 yX6_findBest ∈ wsL_law := tseg_3 (by decide +kernel) (List.mem_of_getElem? (i := 176) rfl)
theorem qw_677 : Cond.instanceMethod yX6_findBest ∈ wsL_law := tseg_3 (by decide +kernel) (List.mem_of_getElem? (i := 177) rfl)
theorem qw_678 : Cond.selects RX6 yX6_findBest yX6_findBest ∈ wsL_law := tseg_3 (by decide +kernel) (List.mem_of_getElem? (i := 178) rfl)
theorem qw_679 : Cond.code yX6_findBest cX6_findBest 4 none ∈ wsL_law := tseg_3 (by decide +kernel) (List.mem_of_getElem? (i := 179) rfl)
theorem qw_680 : Cond.methodLink RX3 57 yX3_findReach ∈ wsL_law := tseg_3 (by decide +kernel) (List.mem_of_getElem? (i := 200) rfl)
theorem qw_681 : Cond.instanceMethod yX3_findReach ∈ wsL_law := tseg_3 (by decide +kernel) (List.mem_of_getElem? (i := 202) rfl)
theorem qw_682 : Cond.selects RX3 yX3_findReach yX3_findReach ∈ wsL_law := List.mem_filter.mpr ⟨List.mem_append_left _ (List.mem_of_getElem? (i := 28) rfl), by decide +kernel⟩
theorem qw_683 : Cond.code yX3_findReach cX3_findReach 3 none ∈ wsL_law := tseg_3 (by decide +kernel) (List.mem_of_getElem? (i := 203) rfl)
theorem qw_684 : Cond.methodLink RX3 60 yX3_findRings ∈ wsL_law := tseg_3 (by decide +kernel) (List.mem_of_getElem? (i := 205) rfl)
theorem qw_685 : Cond.instanceMethod yX3_findRings ∈ wsL_law := tseg_3 (by decide +kernel) (List.mem_of_getElem? (i := 207) rfl)
theorem qw_686 : Cond.selects RX3 yX3_findRings yX3_findRings ∈ wsL_law := List.mem_filter.mpr ⟨List.mem_append_left _ (List.mem_of_getElem? (i := 29) rfl), by decide +kernel⟩
theorem qw_687 : Cond.code yX3_findRings cX3_findRings 2 none ∈ wsL_law := tseg_3 (by decide +kernel) (List.mem_of_getElem? (i := 208) rfl)
theorem qw_688 : Cond.fieldLink RX3 22 "ChanceRings$Outcome" "length" "LChanceRings$Values;" ∈ wsL_law := tseg_2 (by decide +kernel) (List.mem_of_getElem? (i := 107) rfl)
theorem qw_689 : Cond.methodLink RX3 77 yX0_expectMoves ∈ wsL_law := tseg_3 (by decide +kernel) (List.mem_of_getElem? (i := 217) rfl)
theorem qw_690 : Cond.instanceMethod yX0_expectMoves ∈ wsL_law := tseg_3 (by decide +kernel) (List.mem_of_getElem? (i := 218) rfl)
theorem qw_691 : Cond.selects RX0 yX0_expectMoves yX0_expectMoves ∈ wsL_law := tseg_3 (by decide +kernel) (List.mem_of_getElem? (i := 219) rfl)
theorem qw_692 : Cond.code yX0_expectMoves cX0_expectMoves 6 none ∈ wsL_law := tseg_3 (by decide +kernel) (List.mem_of_getElem? (i := 220) rfl)
theorem qw_693 : Cond.methodLink RX3 69 yX3_comesToRing ∈ wsL_law := tseg_3 (by decide +kernel) (List.mem_of_getElem? (i := 213) rfl)
theorem qw_694 : Cond.instanceMethod yX3_comesToRing ∈ wsL_law := tseg_3 (by decide +kernel) (List.mem_of_getElem? (i := 214) rfl)
theorem qw_695 : Cond.selects RX3 yX3_comesToRing yX3_comesToRing ∈ wsL_law := tseg_3 (by decide +kernel) (List.mem_of_getElem? (i := 215) rfl)
theorem qw_696 : Cond.code yX3_comesToRing cX3_comesToRing 2 (some .boolean) ∈ wsL_law := tseg_3 (by decide +kernel) (List.mem_of_getElem? (i := 216) rfl)
theorem dX3_comesBack_0 : decode cX3_comesBack 0 = .ok (.iconst 0, 1) := by decide +kernel
theorem dX3_comesBack_1 : decode cX3_comesBack 1 = .ok (.istore_n 2, 1) := by decide +kernel
theorem dX3_comesBack_2 : decode cX3_comesBack 2 = .ok (.iload_n 2, 1) := by decide +kernel
theorem dX3_comesBack_3 : decode cX3_comesBack 3 = .ok (.aload_n 0, 1) := by decide +kernel
theorem dX3_comesBack_4 : decode cX3_comesBack 4 = .ok (.getfield 31, 3) := by decide +kernel
theorem dX3_comesBack_7 : decode cX3_comesBack 7 = .ok (.getfield 63, 3) := by decide +kernel
theorem dX3_comesBack_10 : decode cX3_comesBack 10 = .ok (.if_icmp .ge 37, 3) := by decide +kernel
theorem dX3_comesBack_13 : decode cX3_comesBack 13 = .ok (.aload_n 0, 1) := by decide +kernel
theorem dX3_comesBack_14 : decode cX3_comesBack 14 = .ok (.getfield 25, 3) := by decide +kernel
theorem dX3_comesBack_17 : decode cX3_comesBack 17 = .ok (.iload_n 1, 1) := by decide +kernel
theorem dX3_comesBack_18 : decode cX3_comesBack 18 = .ok (.iaload, 1) := by decide +kernel
theorem dX3_comesBack_19 : decode cX3_comesBack 19 = .ok (.iload_n 2, 1) := by decide +kernel
theorem dX3_comesBack_20 : decode cX3_comesBack 20 = .ok (.ishr, 1) := by decide +kernel
theorem dX3_comesBack_21 : decode cX3_comesBack 21 = .ok (.iconst 1, 1) := by decide +kernel
theorem dX3_comesBack_22 : decode cX3_comesBack 22 = .ok (.iand, 1) := by decide +kernel
theorem dX3_comesBack_23 : decode cX3_comesBack 23 = .ok (.ifCond .eq 18, 3) := by decide +kernel
theorem dX3_comesBack_26 : decode cX3_comesBack 26 = .ok (.aload_n 0, 1) := by decide +kernel
theorem dX3_comesBack_27 : decode cX3_comesBack 27 = .ok (.getfield 25, 3) := by decide +kernel
theorem dX3_comesBack_30 : decode cX3_comesBack 30 = .ok (.iload_n 2, 1) := by decide +kernel
theorem dX3_comesBack_31 : decode cX3_comesBack 31 = .ok (.iaload, 1) := by decide +kernel
theorem dX3_comesBack_32 : decode cX3_comesBack 32 = .ok (.iload_n 1, 1) := by decide +kernel
theorem dX3_comesBack_33 : decode cX3_comesBack 33 = .ok (.ishr, 1) := by decide +kernel
theorem dX3_comesBack_34 : decode cX3_comesBack 34 = .ok (.iconst 1, 1) := by decide +kernel
theorem dX3_comesBack_35 : decode cX3_comesBack 35 = .ok (.iand, 1) := by decide +kernel
theorem dX3_comesBack_36 : decode cX3_comesBack 36 = .ok (.ifCond .ne 5, 3) := by decide +kernel
theorem dX3_comesBack_39 : decode cX3_comesBack 39 = .ok (.iconst 0, 1) := by decide +kernel
theorem dX3_comesBack_40 : decode cX3_comesBack 40 = .ok (.ireturn, 1) := by decide +kernel
theorem dX3_comesBack_41 : decode cX3_comesBack 41 = .ok (.iinc 2 1, 3) := by decide +kernel
theorem dX3_comesBack_44 : decode cX3_comesBack 44 = .ok (.goto (-42), 3) := by decide +kernel
theorem dX3_comesBack_47 : decode cX3_comesBack 47 = .ok (.aload_n 0, 1) := by decide +kernel
theorem dX3_comesBack_48 : decode cX3_comesBack 48 = .ok (.getfield 31, 3) := by decide +kernel
theorem dX3_comesBack_51 : decode cX3_comesBack 51 = .ok (.getfield 96, 3) := by decide +kernel
theorem dX3_comesBack_54 : decode cX3_comesBack 54 = .ok (.iload_n 1, 1) := by decide +kernel
theorem dX3_comesBack_55 : decode cX3_comesBack 55 = .ok (.iaload, 1) := by decide +kernel
theorem dX3_comesBack_56 : decode cX3_comesBack 56 = .ok (.ifCond .eq 7, 3) := by decide +kernel
theorem dX3_comesBack_59 : decode cX3_comesBack 59 = .ok (.iconst 1, 1) := by decide +kernel
theorem dX3_comesBack_60 : decode cX3_comesBack 60 = .ok (.goto 4, 3) := by decide +kernel
theorem dX3_comesBack_63 : decode cX3_comesBack 63 = .ok (.iconst 0, 1) := by decide +kernel
theorem dX3_comesBack_64 : decode cX3_comesBack 64 = .ok (.ireturn, 1) := by decide +kernel
theorem dX3_comesToRing_0 : decode cX3_comesToRing 0 = .ok (.aload_n 0, 1) := by decide +kernel
theorem dX3_comesToRing_1 : decode cX3_comesToRing 1 = .ok (.getfield 25, 3) := by decide +kernel
theorem dX3_comesToRing_4 : decode cX3_comesToRing 4 = .ok (.iload_n 1, 1) := by decide +kernel
theorem dX3_comesToRing_5 : decode cX3_comesToRing 5 = .ok (.iaload, 1) := by decide +kernel
theorem dX3_comesToRing_6 : decode cX3_comesToRing 6 = .ok (.aload_n 0, 1) := by decide +kernel
theorem dX3_comesToRing_7 : decode cX3_comesToRing 7 = .ok (.getfield 90, 3) := by decide +kernel
theorem dX3_comesToRing_10 : decode cX3_comesToRing 10 = .ok (.iand, 1) := by decide +kernel
theorem dX3_comesToRing_11 : decode cX3_comesToRing 11 = .ok (.ifCond .eq 7, 3) := by decide +kernel
theorem dX3_comesToRing_14 : decode cX3_comesToRing 14 = .ok (.iconst 1, 1) := by decide +kernel
theorem dX3_comesToRing_15 : decode cX3_comesToRing 15 = .ok (.goto 4, 3) := by decide +kernel
theorem dX3_comesToRing_18 : decode cX3_comesToRing 18 = .ok (.iconst 0, 1) := by decide +kernel
theorem dX3_comesToRing_19 : decode cX3_comesToRing 19 = .ok (.ireturn, 1) := by decide +kernel
theorem dX3_countAhead_0 : decode cX3_countAhead 0 = .ok (.iconst 0, 1) := by decide +kernel
theorem dX3_countAhead_1 : decode cX3_countAhead 1 = .ok (.istore_n 2, 1) := by decide +kernel
theorem dX3_countAhead_2 : decode cX3_countAhead 2 = .ok (.iconst 0, 1) := by decide +kernel
theorem dX3_countAhead_3 : decode cX3_countAhead 3 = .ok (.istore_n 3, 1) := by decide +kernel
theorem dX3_countAhead_4 : decode cX3_countAhead 4 = .ok (.iload_n 3, 1) := by decide +kernel
theorem dX3_countAhead_5 : decode cX3_countAhead 5 = .ok (.aload_n 0, 1) := by decide +kernel
theorem dX3_countAhead_6 : decode cX3_countAhead 6 = .ok (.getfield 31, 3) := by decide +kernel
theorem dX3_countAhead_9 : decode cX3_countAhead 9 = .ok (.getfield 63, 3) := by decide +kernel
theorem dX3_countAhead_12 : decode cX3_countAhead 12 = .ok (.if_icmp .ge 61, 3) := by decide +kernel
theorem dX3_countAhead_15 : decode cX3_countAhead 15 = .ok (.aload_n 0, 1) := by decide +kernel
theorem dX3_countAhead_16 : decode cX3_countAhead 16 = .ok (.getfield 18, 3) := by decide +kernel
theorem dX3_countAhead_19 : decode cX3_countAhead 19 = .ok (.getfield 99, 3) := by decide +kernel
theorem dX3_countAhead_22 : decode cX3_countAhead 22 = .ok (.iload_n 3, 1) := by decide +kernel
theorem dX3_countAhead_23 : decode cX3_countAhead 23 = .ok (.laload, 1) := by decide +kernel
theorem dX3_countAhead_24 : decode cX3_countAhead 24 = .ok (.aload_n 0, 1) := by decide +kernel
theorem dX3_countAhead_25 : decode cX3_countAhead 25 = .ok (.getfield 18, 3) := by decide +kernel
theorem dX3_countAhead_28 : decode cX3_countAhead 28 = .ok (.getfield 99, 3) := by decide +kernel
theorem dX3_countAhead_31 : decode cX3_countAhead 31 = .ok (.iload_n 1, 1) := by decide +kernel
theorem dX3_countAhead_32 : decode cX3_countAhead 32 = .ok (.laload, 1) := by decide +kernel
theorem dX3_countAhead_33 : decode cX3_countAhead 33 = .ok (.lcmp, 1) := by decide +kernel
theorem dX3_countAhead_34 : decode cX3_countAhead 34 = .ok (.ifCond .gt 30, 3) := by decide +kernel
theorem dX3_countAhead_37 : decode cX3_countAhead 37 = .ok (.aload_n 0, 1) := by decide +kernel
theorem dX3_countAhead_38 : decode cX3_countAhead 38 = .ok (.getfield 18, 3) := by decide +kernel
theorem dX3_countAhead_41 : decode cX3_countAhead 41 = .ok (.getfield 99, 3) := by decide +kernel
theorem dX3_countAhead_44 : decode cX3_countAhead 44 = .ok (.iload_n 3, 1) := by decide +kernel
theorem dX3_countAhead_45 : decode cX3_countAhead 45 = .ok (.laload, 1) := by decide +kernel
theorem dX3_countAhead_46 : decode cX3_countAhead 46 = .ok (.aload_n 0, 1) := by decide +kernel
theorem dX3_countAhead_47 : decode cX3_countAhead 47 = .ok (.getfield 18, 3) := by decide +kernel
theorem dX3_countAhead_50 : decode cX3_countAhead 50 = .ok (.getfield 99, 3) := by decide +kernel
theorem dX3_countAhead_53 : decode cX3_countAhead 53 = .ok (.iload_n 1, 1) := by decide +kernel
theorem dX3_countAhead_54 : decode cX3_countAhead 54 = .ok (.laload, 1) := by decide +kernel
theorem dX3_countAhead_55 : decode cX3_countAhead 55 = .ok (.lcmp, 1) := by decide +kernel
theorem dX3_countAhead_56 : decode cX3_countAhead 56 = .ok (.ifCond .ne 11, 3) := by decide +kernel
theorem dX3_countAhead_59 : decode cX3_countAhead 59 = .ok (.iload_n 3, 1) := by decide +kernel
theorem dX3_countAhead_60 : decode cX3_countAhead 60 = .ok (.iload_n 1, 1) := by decide +kernel
theorem dX3_countAhead_61 : decode cX3_countAhead 61 = .ok (.if_icmp .ge 6, 3) := by decide +kernel
theorem dX3_countAhead_64 : decode cX3_countAhead 64 = .ok (.iinc 2 1, 3) := by decide +kernel
theorem dX3_countAhead_67 : decode cX3_countAhead 67 = .ok (.iinc 3 1, 3) := by decide +kernel
theorem dX3_countAhead_70 : decode cX3_countAhead 70 = .ok (.goto (-66), 3) := by decide +kernel
theorem dX3_countAhead_73 : decode cX3_countAhead 73 = .ok (.iload_n 2, 1) := by decide +kernel
theorem dX3_countAhead_74 : decode cX3_countAhead 74 = .ok (.ireturn, 1) := by decide +kernel
theorem dX3_drawnWay_0 : decode cX3_drawnWay 0 = .ok (.aload_n 0, 1) := by decide +kernel
theorem dX3_drawnWay_1 : decode cX3_drawnWay 1 = .ok (.getfield 31, 3) := by decide +kernel
theorem dX3_drawnWay_4 : decode cX3_drawnWay 4 = .ok (.iload_n 1, 1) := by decide +kernel
theorem dX3_drawnWay_5 : decode cX3_drawnWay 5 = .ok (.invokevirtual 115, 3) := by decide +kernel
theorem dX3_drawnWay_8 : decode cX3_drawnWay 8 = .ok (.istore_n 3, 1) := by decide +kernel
theorem dX3_drawnWay_9 : decode cX3_drawnWay 9 = .ok (.iload_n 3, 1) := by decide +kernel
theorem dX3_drawnWay_10 : decode cX3_drawnWay 10 = .ok (.ifCond .ne 7, 3) := by decide +kernel
theorem dX3_drawnWay_13 : decode cX3_drawnWay 13 = .ok (.iconst 0, 1) := by decide +kernel
theorem dX3_drawnWay_14 : decode cX3_drawnWay 14 = .ok (.goto 6, 3) := by decide +kernel
theorem dX3_drawnWay_17 : decode cX3_drawnWay 17 = .ok (.iload_n 2, 1) := by decide +kernel
theorem dX3_drawnWay_18 : decode cX3_drawnWay 18 = .ok (.iload_n 3, 1) := by decide +kernel
theorem dX3_drawnWay_19 : decode cX3_drawnWay 19 = .ok (.irem, 1) := by decide +kernel
theorem dX3_drawnWay_20 : decode cX3_drawnWay 20 = .ok (.istore 4, 2) := by decide +kernel
theorem dX3_drawnWay_22 : decode cX3_drawnWay 22 = .ok (.iconst 0, 1) := by decide +kernel
theorem dX3_drawnWay_23 : decode cX3_drawnWay 23 = .ok (.istore 5, 2) := by decide +kernel
theorem dX3_drawnWay_25 : decode cX3_drawnWay 25 = .ok (.iconst 0, 1) := by decide +kernel
theorem dX3_drawnWay_26 : decode cX3_drawnWay 26 = .ok (.istore 6, 2) := by decide +kernel
theorem dX3_drawnWay_28 : decode cX3_drawnWay 28 = .ok (.iload 6, 2) := by decide +kernel
theorem dX3_drawnWay_30 : decode cX3_drawnWay 30 = .ok (.aload_n 0, 1) := by decide +kernel
theorem dX3_drawnWay_31 : decode cX3_drawnWay 31 = .ok (.getfield 31, 3) := by decide +kernel
theorem dX3_drawnWay_34 : decode cX3_drawnWay 34 = .ok (.getfield 118, 3) := by decide +kernel
theorem dX3_drawnWay_37 : decode cX3_drawnWay 37 = .ok (.iload_n 1, 1) := by decide +kernel
theorem dX3_drawnWay_38 : decode cX3_drawnWay 38 = .ok (.iaload, 1) := by decide +kernel
theorem dX3_drawnWay_39 : decode cX3_drawnWay 39 = .ok (.if_icmp .ge 34, 3) := by decide +kernel
theorem dX3_drawnWay_42 : decode cX3_drawnWay 42 = .ok (.iload 5, 2) := by decide +kernel
theorem dX3_drawnWay_44 : decode cX3_drawnWay 44 = .ok (.aload_n 0, 1) := by decide +kernel
theorem dX3_drawnWay_45 : decode cX3_drawnWay 45 = .ok (.getfield 31, 3) := by decide +kernel
theorem dX3_drawnWay_48 : decode cX3_drawnWay 48 = .ok (.iload_n 1, 1) := by decide +kernel
theorem dX3_drawnWay_49 : decode cX3_drawnWay 49 = .ok (.iload 6, 2) := by decide +kernel
theorem dX3_drawnWay_51 : decode cX3_drawnWay 51 = .ok (.invokevirtual 121, 3) := by decide +kernel
theorem dX3_drawnWay_54 : decode cX3_drawnWay 54 = .ok (.iadd, 1) := by decide +kernel
theorem dX3_drawnWay_55 : decode cX3_drawnWay 55 = .ok (.istore 5, 2) := by decide +kernel
theorem dX3_drawnWay_57 : decode cX3_drawnWay 57 = .ok (.iload 5, 2) := by decide +kernel
theorem dX3_drawnWay_59 : decode cX3_drawnWay 59 = .ok (.iload 4, 2) := by decide +kernel
theorem dX3_drawnWay_61 : decode cX3_drawnWay 61 = .ok (.if_icmp .le 6, 3) := by decide +kernel
theorem dX3_drawnWay_64 : decode cX3_drawnWay 64 = .ok (.iload 6, 2) := by decide +kernel
theorem dX3_drawnWay_66 : decode cX3_drawnWay 66 = .ok (.ireturn, 1) := by decide +kernel
theorem dX3_drawnWay_67 : decode cX3_drawnWay 67 = .ok (.iinc 6 1, 3) := by decide +kernel
theorem dX3_drawnWay_70 : decode cX3_drawnWay 70 = .ok (.goto (-42), 3) := by decide +kernel
theorem dX3_drawnWay_73 : decode cX3_drawnWay 73 = .ok (.iconst 0, 1) := by decide +kernel
theorem dX3_drawnWay_74 : decode cX3_drawnWay 74 = .ok (.ireturn, 1) := by decide +kernel
theorem dX3_findReach_0 : decode cX3_findReach 0 = .ok (.iconst 0, 1) := by decide +kernel
theorem dX3_findReach_1 : decode cX3_findReach 1 = .ok (.istore_n 1, 1) := by decide +kernel
theorem dX3_findReach_2 : decode cX3_findReach 2 = .ok (.iload_n 1, 1) := by decide +kernel
theorem dX3_findReach_3 : decode cX3_findReach 3 = .ok (.aload_n 0, 1) := by decide +kernel
theorem dX3_findReach_4 : decode cX3_findReach 4 = .ok (.getfield 31, 3) := by decide +kernel
theorem dX3_findReach_7 : decode cX3_findReach 7 = .ok (.getfield 63, 3) := by decide +kernel
theorem dX3_findReach_10 : decode cX3_findReach 10 = .ok (.if_icmp .ge 34, 3) := by decide +kernel
theorem dX3_findReach_13 : decode cX3_findReach 13 = .ok (.aload_n 0, 1) := by decide +kernel
theorem dX3_findReach_14 : decode cX3_findReach 14 = .ok (.getfield 25, 3) := by decide +kernel
theorem dX3_findReach_17 : decode cX3_findReach 17 = .ok (.iload_n 1, 1) := by decide +kernel
theorem dX3_findReach_18 : decode cX3_findReach 18 = .ok (.iconst 1, 1) := by decide +kernel
theorem dX3_findReach_19 : decode cX3_findReach 19 = .ok (.iload_n 1, 1) := by decide +kernel
theorem dX3_findReach_20 : decode cX3_findReach 20 = .ok (.ishl, 1) := by decide +kernel
theorem dX3_findReach_21 : decode cX3_findReach 21 = .ok (.aload_n 0, 1) := by decide +kernel
theorem dX3_findReach_22 : decode cX3_findReach 22 = .ok (.getfield 35, 3) := by decide +kernel
theorem dX3_findReach_25 : decode cX3_findReach 25 = .ok (.getfield 73, 3) := by decide +kernel
theorem dX3_findReach_28 : decode cX3_findReach 28 = .ok (.aload_n 0, 1) := by decide +kernel
theorem dX3_findReach_29 : decode cX3_findReach 29 = .ok (.getfield 9, 3) := by decide +kernel
theorem dX3_findReach_32 : decode cX3_findReach 32 = .ok (.iload_n 1, 1) := by decide +kernel
theorem dX3_findReach_33 : decode cX3_findReach 33 = .ok (.invokevirtual 83, 3) := by decide +kernel
theorem dX3_findReach_36 : decode cX3_findReach 36 = .ok (.ior, 1) := by decide +kernel
theorem dX3_findReach_37 : decode cX3_findReach 37 = .ok (.iastore, 1) := by decide +kernel
theorem dX3_findReach_38 : decode cX3_findReach 38 = .ok (.iinc 1 1, 3) := by decide +kernel
theorem dX3_findReach_41 : decode cX3_findReach 41 = .ok (.goto (-39), 3) := by decide +kernel
theorem dX3_findReach_44 : decode cX3_findReach 44 = .ok (.iconst 0, 1) := by decide +kernel
theorem dX3_findReach_45 : decode cX3_findReach 45 = .ok (.istore_n 1, 1) := by decide +kernel
theorem dX3_findReach_46 : decode cX3_findReach 46 = .ok (.iload_n 1, 1) := by decide +kernel
theorem dX3_findReach_47 : decode cX3_findReach 47 = .ok (.aload_n 0, 1) := by decide +kernel
theorem dX3_findReach_48 : decode cX3_findReach 48 = .ok (.getfield 31, 3) := by decide +kernel
theorem dX3_findReach_51 : decode cX3_findReach 51 = .ok (.getfield 63, 3) := by decide +kernel
theorem dX3_findReach_54 : decode cX3_findReach 54 = .ok (.if_icmp .ge 56, 3) := by decide +kernel
theorem dX3_findReach_57 : decode cX3_findReach 57 = .ok (.iconst 0, 1) := by decide +kernel
theorem dX3_findReach_58 : decode cX3_findReach 58 = .ok (.istore_n 2, 1) := by decide +kernel
theorem dX3_findReach_59 : decode cX3_findReach 59 = .ok (.iload_n 2, 1) := by decide +kernel
theorem dX3_findReach_60 : decode cX3_findReach 60 = .ok (.aload_n 0, 1) := by decide +kernel
theorem dX3_findReach_61 : decode cX3_findReach 61 = .ok (.getfield 31, 3) := by decide +kernel
theorem dX3_findReach_64 : decode cX3_findReach 64 = .ok (.getfield 63, 3) := by decide +kernel
theorem dX3_findReach_67 : decode cX3_findReach 67 = .ok (.if_icmp .ge 37, 3) := by decide +kernel
theorem dX3_findReach_70 : decode cX3_findReach 70 = .ok (.aload_n 0, 1) := by decide +kernel
theorem dX3_findReach_71 : decode cX3_findReach 71 = .ok (.getfield 25, 3) := by decide +kernel
theorem dX3_findReach_74 : decode cX3_findReach 74 = .ok (.iload_n 2, 1) := by decide +kernel
theorem dX3_findReach_75 : decode cX3_findReach 75 = .ok (.iaload, 1) := by decide +kernel
theorem dX3_findReach_76 : decode cX3_findReach 76 = .ok (.iload_n 1, 1) := by decide +kernel
theorem dX3_findReach_77 : decode cX3_findReach 77 = .ok (.ishr, 1) := by decide +kernel
theorem dX3_findReach_78 : decode cX3_findReach 78 = .ok (.iconst 1, 1) := by decide +kernel
theorem dX3_findReach_79 : decode cX3_findReach 79 = .ok (.iand, 1) := by decide +kernel
theorem dX3_findReach_80 : decode cX3_findReach 80 = .ok (.ifCond .eq 18, 3) := by decide +kernel
theorem dX3_findReach_83 : decode cX3_findReach 83 = .ok (.aload_n 0, 1) := by decide +kernel
theorem dX3_findReach_84 : decode cX3_findReach 84 = .ok (.getfield 25, 3) := by decide +kernel
theorem dX3_findReach_87 : decode cX3_findReach 87 = .ok (.iload_n 2, 1) := by decide +kernel
theorem dX3_findReach_88 : decode cX3_findReach 88 = .ok (.dup2, 1) := by decide +kernel
theorem dX3_findReach_89 : decode cX3_findReach 89 = .ok (.iaload, 1) := by decide +kernel
theorem dX3_findReach_90 : decode cX3_findReach 90 = .ok (.aload_n 0, 1) := by decide +kernel
theorem dX3_findReach_91 : decode cX3_findReach 91 = .ok (.getfield 25, 3) := by decide +kernel
theorem dX3_findReach_94 : decode cX3_findReach 94 = .ok (.iload_n 1, 1) := by decide +kernel
theorem dX3_findReach_95 : decode cX3_findReach 95 = .ok (.iaload, 1) := by decide +kernel
theorem dX3_findReach_96 : decode cX3_findReach 96 = .ok (.ior, 1) := by decide +kernel
theorem dX3_findReach_97 : decode cX3_findReach 97 = .ok (.iastore, 1) := by decide +kernel
theorem dX3_findReach_98 : decode cX3_findReach 98 = .ok (.iinc 2 1, 3) := by decide +kernel
theorem dX3_findReach_101 : decode cX3_findReach 101 = .ok (.goto (-42), 3) := by decide +kernel
theorem dX3_findReach_104 : decode cX3_findReach 104 = .ok (.iinc 1 1, 3) := by decide +kernel
theorem dX3_findReach_107 : decode cX3_findReach 107 = .ok (.goto (-61), 3) := by decide +kernel
theorem dX3_findReach_110 : decode cX3_findReach 110 = .ok (.return_, 1) := by decide +kernel
theorem dX3_findRings_0 : decode cX3_findRings 0 = .ok (.aload_n 0, 1) := by decide +kernel
theorem dX3_findRings_1 : decode cX3_findRings 1 = .ok (.iconst 0, 1) := by decide +kernel
theorem dX3_findRings_2 : decode cX3_findRings 2 = .ok (.putfield 87, 3) := by decide +kernel
theorem dX3_findRings_5 : decode cX3_findRings 5 = .ok (.aload_n 0, 1) := by decide +kernel
theorem dX3_findRings_6 : decode cX3_findRings 6 = .ok (.iconst 0, 1) := by decide +kernel
theorem dX3_findRings_7 : decode cX3_findRings 7 = .ok (.putfield 90, 3) := by decide +kernel
theorem dX3_findRings_10 : decode cX3_findRings 10 = .ok (.iconst 0, 1) := by decide +kernel
theorem dX3_findRings_11 : decode cX3_findRings 11 = .ok (.istore_n 1, 1) := by decide +kernel
theorem dX3_findRings_12 : decode cX3_findRings 12 = .ok (.iload_n 1, 1) := by decide +kernel
theorem dX3_findRings_13 : decode cX3_findRings 13 = .ok (.aload_n 0, 1) := by decide +kernel
theorem dX3_findRings_14 : decode cX3_findRings 14 = .ok (.getfield 31, 3) := by decide +kernel
theorem dX3_findRings_17 : decode cX3_findRings 17 = .ok (.getfield 63, 3) := by decide +kernel
theorem dX3_findRings_20 : decode cX3_findRings 20 = .ok (.if_icmp .ge 68, 3) := by decide +kernel
theorem dX3_findRings_23 : decode cX3_findRings 23 = .ok (.aload_n 0, 1) := by decide +kernel
theorem dX3_findRings_24 : decode cX3_findRings 24 = .ok (.getfield 90, 3) := by decide +kernel
theorem dX3_findRings_27 : decode cX3_findRings 27 = .ok (.iload_n 1, 1) := by decide +kernel
theorem dX3_findRings_28 : decode cX3_findRings 28 = .ok (.ishr, 1) := by decide +kernel
theorem dX3_findRings_29 : decode cX3_findRings 29 = .ok (.iconst 1, 1) := by decide +kernel
theorem dX3_findRings_30 : decode cX3_findRings 30 = .ok (.iand, 1) := by decide +kernel
theorem dX3_findRings_31 : decode cX3_findRings 31 = .ok (.ifCond .ne 51, 3) := by decide +kernel
theorem dX3_findRings_34 : decode cX3_findRings 34 = .ok (.aload_n 0, 1) := by decide +kernel
theorem dX3_findRings_35 : decode cX3_findRings 35 = .ok (.iload_n 1, 1) := by decide +kernel
theorem dX3_findRings_36 : decode cX3_findRings 36 = .ok (.invokevirtual 93, 3) := by decide +kernel
theorem dX3_findRings_39 : decode cX3_findRings 39 = .ok (.ifCond .eq 43, 3) := by decide +kernel
theorem dX3_findRings_42 : decode cX3_findRings 42 = .ok (.aload_n 0, 1) := by decide +kernel
theorem dX3_findRings_43 : decode cX3_findRings 43 = .ok (.getfield 28, 3) := by decide +kernel
theorem dX3_findRings_46 : decode cX3_findRings 46 = .ok (.aload_n 0, 1) := by decide +kernel
theorem dX3_findRings_47 : decode cX3_findRings 47 = .ok (.getfield 87, 3) := by decide +kernel
theorem dX3_findRings_50 : decode cX3_findRings 50 = .ok (.aload_n 0, 1) := by decide +kernel
theorem dX3_findRings_51 : decode cX3_findRings 51 = .ok (.getfield 25, 3) := by decide +kernel
theorem dX3_findRings_54 : decode cX3_findRings 54 = .ok (.iload_n 1, 1) := by decide +kernel
theorem dX3_findRings_55 : decode cX3_findRings 55 = .ok (.iaload, 1) := by decide +kernel
theorem dX3_findRings_56 : decode cX3_findRings 56 = .ok (.iastore, 1) := by decide +kernel
theorem dX3_findRings_57 : decode cX3_findRings 57 = .ok (.aload_n 0, 1) := by decide +kernel
theorem dX3_findRings_58 : decode cX3_findRings 58 = .ok (.dup, 1) := by decide +kernel
theorem dX3_findRings_59 : decode cX3_findRings 59 = .ok (.getfield 90, 3) := by decide +kernel
theorem dX3_findRings_62 : decode cX3_findRings 62 = .ok (.aload_n 0, 1) := by decide +kernel
theorem dX3_findRings_63 : decode cX3_findRings 63 = .ok (.getfield 25, 3) := by decide +kernel
theorem dX3_findRings_66 : decode cX3_findRings 66 = .ok (.iload_n 1, 1) := by decide +kernel
theorem dX3_findRings_67 : decode cX3_findRings 67 = .ok (.iaload, 1) := by decide +kernel
theorem dX3_findRings_68 : decode cX3_findRings 68 = .ok (.ior, 1) := by decide +kernel
theorem dX3_findRings_69 : decode cX3_findRings 69 = .ok (.putfield 90, 3) := by decide +kernel
theorem dX3_findRings_72 : decode cX3_findRings 72 = .ok (.aload_n 0, 1) := by decide +kernel
theorem dX3_findRings_73 : decode cX3_findRings 73 = .ok (.dup, 1) := by decide +kernel
theorem dX3_findRings_74 : decode cX3_findRings 74 = .ok (.getfield 87, 3) := by decide +kernel
theorem dX3_findRings_77 : decode cX3_findRings 77 = .ok (.iconst 1, 1) := by decide +kernel
theorem dX3_findRings_78 : decode cX3_findRings 78 = .ok (.iadd, 1) := by decide +kernel
theorem dX3_findRings_79 : decode cX3_findRings 79 = .ok (.putfield 87, 3) := by decide +kernel
theorem dX3_findRings_82 : decode cX3_findRings 82 = .ok (.iinc 1 1, 3) := by decide +kernel
theorem dX3_findRings_85 : decode cX3_findRings 85 = .ok (.goto (-73), 3) := by decide +kernel
theorem dX3_findRings_88 : decode cX3_findRings 88 = .ok (.return_, 1) := by decide +kernel
theorem dX3_ranked_0 : decode cX3_ranked 0 = .ok (.iconst 0, 1) := by decide +kernel
theorem dX3_ranked_1 : decode cX3_ranked 1 = .ok (.istore_n 2, 1) := by decide +kernel
theorem dX3_ranked_2 : decode cX3_ranked 2 = .ok (.iload_n 2, 1) := by decide +kernel
theorem dX3_ranked_3 : decode cX3_ranked 3 = .ok (.aload_n 0, 1) := by decide +kernel
theorem dX3_ranked_4 : decode cX3_ranked 4 = .ok (.getfield 31, 3) := by decide +kernel
theorem dX3_ranked_7 : decode cX3_ranked 7 = .ok (.getfield 63, 3) := by decide +kernel
theorem dX3_ranked_10 : decode cX3_ranked 10 = .ok (.if_icmp .ge 20, 3) := by decide +kernel
theorem dX3_ranked_13 : decode cX3_ranked 13 = .ok (.aload_n 0, 1) := by decide +kernel
theorem dX3_ranked_14 : decode cX3_ranked 14 = .ok (.iload_n 2, 1) := by decide +kernel
theorem dX3_ranked_15 : decode cX3_ranked 15 = .ok (.invokevirtual 103, 3) := by decide +kernel
theorem dX3_ranked_18 : decode cX3_ranked 18 = .ok (.iload_n 1, 1) := by decide +kernel
theorem dX3_ranked_19 : decode cX3_ranked 19 = .ok (.if_icmp .ne 5, 3) := by decide +kernel
theorem dX3_ranked_22 : decode cX3_ranked 22 = .ok (.iload_n 2, 1) := by decide +kernel
theorem dX3_ranked_23 : decode cX3_ranked 23 = .ok (.ireturn, 1) := by decide +kernel
theorem dX3_ranked_24 : decode cX3_ranked 24 = .ok (.iinc 2 1, 3) := by decide +kernel
theorem dX3_ranked_27 : decode cX3_ranked 27 = .ok (.goto (-25), 3) := by decide +kernel
theorem dX3_ranked_30 : decode cX3_ranked 30 = .ok (.iconst (-1), 1) := by decide +kernel
theorem dX3_ranked_31 : decode cX3_ranked 31 = .ok (.ireturn, 1) := by decide +kernel
theorem dX3_settle_0 : decode cX3_settle 0 = .ok (.aload_n 0, 1) := by decide +kernel
theorem dX3_settle_1 : decode cX3_settle 1 = .ok (.getfield 39, 3) := by decide +kernel
theorem dX3_settle_4 : decode cX3_settle 4 = .ok (.ifCond .eq 4, 3) := by decide +kernel
theorem dX3_settle_7 : decode cX3_settle 7 = .ok (.return_, 1) := by decide +kernel
theorem dX3_settle_8 : decode cX3_settle 8 = .ok (.aload_n 0, 1) := by decide +kernel
theorem dX3_settle_9 : decode cX3_settle 9 = .ok (.getfield 35, 3) := by decide +kernel
theorem dX3_settle_12 : decode cX3_settle 12 = .ok (.aload_n 0, 1) := by decide +kernel
theorem dX3_settle_13 : decode cX3_settle 13 = .ok (.getfield 9, 3) := by decide +kernel
theorem dX3_settle_16 : decode cX3_settle 16 = .ok (.invokevirtual 43, 3) := by decide +kernel
theorem dX3_settle_19 : decode cX3_settle 19 = .ok (.aload_n 0, 1) := by decide +kernel
theorem dX3_settle_20 : decode cX3_settle 20 = .ok (.getfield 35, 3) := by decide +kernel
theorem dX3_settle_23 : decode cX3_settle 23 = .ok (.aload_n 0, 1) := by decide +kernel
theorem dX3_settle_24 : decode cX3_settle 24 = .ok (.getfield 9, 3) := by decide +kernel
theorem dX3_settle_27 : decode cX3_settle 27 = .ok (.iconst 1, 1) := by decide +kernel
theorem dX3_settle_28 : decode cX3_settle 28 = .ok (.iconst 1, 1) := by decide +kernel
theorem dX3_settle_29 : decode cX3_settle 29 = .ok (.aload_n 0, 1) := by decide +kernel
theorem dX3_settle_30 : decode cX3_settle 30 = .ok (.getfield 18, 3) := by decide +kernel
theorem dX3_settle_33 : decode cX3_settle 33 = .ok (.invokevirtual 49, 3) := by decide +kernel
theorem dX3_settle_36 : decode cX3_settle 36 = .ok (.aload_n 0, 1) := by decide +kernel
theorem dX3_settle_37 : decode cX3_settle 37 = .ok (.getfield 35, 3) := by decide +kernel
theorem dX3_settle_40 : decode cX3_settle 40 = .ok (.aload_n 0, 1) := by decide +kernel
theorem dX3_settle_41 : decode cX3_settle 41 = .ok (.getfield 18, 3) := by decide +kernel
theorem dX3_settle_44 : decode cX3_settle 44 = .ok (.aload_n 0, 1) := by decide +kernel
theorem dX3_settle_45 : decode cX3_settle 45 = .ok (.getfield 9, 3) := by decide +kernel
theorem dX3_settle_48 : decode cX3_settle 48 = .ok (.invokevirtual 53, 3) := by decide +kernel
theorem dX3_settle_51 : decode cX3_settle 51 = .ok (.aload_n 0, 1) := by decide +kernel
theorem dX3_settle_52 : decode cX3_settle 52 = .ok (.invokevirtual 57, 3) := by decide +kernel
theorem dX3_settle_55 : decode cX3_settle 55 = .ok (.aload_n 0, 1) := by decide +kernel
theorem dX3_settle_56 : decode cX3_settle 56 = .ok (.invokevirtual 60, 3) := by decide +kernel
theorem dX3_settle_59 : decode cX3_settle 59 = .ok (.iconst 0, 1) := by decide +kernel
theorem dX3_settle_60 : decode cX3_settle 60 = .ok (.istore_n 1, 1) := by decide +kernel
theorem dX3_settle_61 : decode cX3_settle 61 = .ok (.iconst 0, 1) := by decide +kernel
theorem dX3_settle_62 : decode cX3_settle 62 = .ok (.istore_n 2, 1) := by decide +kernel
theorem dX3_settle_63 : decode cX3_settle 63 = .ok (.iload_n 2, 1) := by decide +kernel
theorem dX3_settle_64 : decode cX3_settle 64 = .ok (.aload_n 0, 1) := by decide +kernel
theorem dX3_settle_65 : decode cX3_settle 65 = .ok (.getfield 31, 3) := by decide +kernel
theorem dX3_settle_68 : decode cX3_settle 68 = .ok (.getfield 63, 3) := by decide +kernel
theorem dX3_settle_71 : decode cX3_settle 71 = .ok (.if_icmp .ge 23, 3) := by decide +kernel
theorem dX3_settle_74 : decode cX3_settle 74 = .ok (.aload_n 0, 1) := by decide +kernel
theorem dX3_settle_75 : decode cX3_settle 75 = .ok (.iload_n 2, 1) := by decide +kernel
theorem dX3_settle_76 : decode cX3_settle 76 = .ok (.invokevirtual 69, 3) := by decide +kernel
theorem dX3_settle_79 : decode cX3_settle 79 = .ok (.ifCond .ne 9, 3) := by decide +kernel
theorem dX3_settle_82 : decode cX3_settle 82 = .ok (.iload_n 1, 1) := by decide +kernel
theorem dX3_settle_83 : decode cX3_settle 83 = .ok (.iconst 1, 1) := by decide +kernel
theorem dX3_settle_84 : decode cX3_settle 84 = .ok (.iload_n 2, 1) := by decide +kernel
theorem dX3_settle_85 : decode cX3_settle 85 = .ok (.ishl, 1) := by decide +kernel
theorem dX3_settle_86 : decode cX3_settle 86 = .ok (.ior, 1) := by decide +kernel
theorem dX3_settle_87 : decode cX3_settle 87 = .ok (.istore_n 1, 1) := by decide +kernel
theorem dX3_settle_88 : decode cX3_settle 88 = .ok (.iinc 2 1, 3) := by decide +kernel
theorem dX3_settle_91 : decode cX3_settle 91 = .ok (.goto (-28), 3) := by decide +kernel
theorem dX3_settle_94 : decode cX3_settle 94 = .ok (.aload_n 0, 1) := by decide +kernel
theorem dX3_settle_95 : decode cX3_settle 95 = .ok (.getfield 35, 3) := by decide +kernel
theorem dX3_settle_98 : decode cX3_settle 98 = .ok (.getfield 73, 3) := by decide +kernel
theorem dX3_settle_101 : decode cX3_settle 101 = .ok (.aload_n 0, 1) := by decide +kernel
theorem dX3_settle_102 : decode cX3_settle 102 = .ok (.getfield 9, 3) := by decide +kernel
theorem dX3_settle_105 : decode cX3_settle 105 = .ok (.iload_n 1, 1) := by decide +kernel
theorem dX3_settle_106 : decode cX3_settle 106 = .ok (.aload_n 0, 1) := by decide +kernel
theorem dX3_settle_107 : decode cX3_settle 107 = .ok (.getfield 22, 3) := by decide +kernel
theorem dX3_settle_110 : decode cX3_settle 110 = .ok (.invokevirtual 77, 3) := by decide +kernel
theorem dX3_settle_113 : decode cX3_settle 113 = .ok (.aload_n 0, 1) := by decide +kernel
theorem dX3_settle_114 : decode cX3_settle 114 = .ok (.iconst 1, 1) := by decide +kernel
theorem dX3_settle_115 : decode cX3_settle 115 = .ok (.putfield 39, 3) := by decide +kernel
theorem dX3_settle_118 : decode cX3_settle 118 = .ok (.return_, 1) := by decide +kernel
theorem dX3_walk_0 : decode cX3_walk 0 = .ok (.iload_n 1, 1) := by decide +kernel
theorem dX3_walk_1 : decode cX3_walk 1 = .ok (.istore 4, 2) := by decide +kernel
theorem dX3_walk_3 : decode cX3_walk 3 = .ok (.iload_n 2, 1) := by decide +kernel
theorem dX3_walk_4 : decode cX3_walk 4 = .ok (.istore 5, 2) := by decide +kernel
theorem dX3_walk_6 : decode cX3_walk 6 = .ok (.iconst 0, 1) := by decide +kernel
theorem dX3_walk_7 : decode cX3_walk 7 = .ok (.istore 6, 2) := by decide +kernel
theorem dX3_walk_9 : decode cX3_walk 9 = .ok (.iload 6, 2) := by decide +kernel
theorem dX3_walk_11 : decode cX3_walk 11 = .ok (.iload_n 3, 1) := by decide +kernel
theorem dX3_walk_12 : decode cX3_walk 12 = .ok (.if_icmp .ge 82, 3) := by decide +kernel
theorem dX3_walk_15 : decode cX3_walk 15 = .ok (.aload_n 0, 1) := by decide +kernel
theorem dX3_walk_16 : decode cX3_walk 16 = .ok (.getfield 31, 3) := by decide +kernel
theorem dX3_walk_19 : decode cX3_walk 19 = .ok (.getfield 96, 3) := by decide +kernel
theorem dX3_walk_22 : decode cX3_walk 22 = .ok (.iload 4, 2) := by decide +kernel
theorem dX3_walk_24 : decode cX3_walk 24 = .ok (.iaload, 1) := by decide +kernel
theorem dX3_walk_25 : decode cX3_walk 25 = .ok (.ifCond .eq 69, 3) := by decide +kernel
theorem dX3_walk_28 : decode cX3_walk 28 = .ok (.aload_n 0, 1) := by decide +kernel
theorem dX3_walk_29 : decode cX3_walk 29 = .ok (.getfield 9, 3) := by decide +kernel
theorem dX3_walk_32 : decode cX3_walk 32 = .ok (.iload 4, 2) := by decide +kernel
theorem dX3_walk_34 : decode cX3_walk 34 = .ok (.iaload, 1) := by decide +kernel
theorem dX3_walk_35 : decode cX3_walk 35 = .ok (.istore 7, 2) := by decide +kernel
theorem dX3_walk_37 : decode cX3_walk 37 = .ok (.aload_n 0, 1) := by decide +kernel
theorem dX3_walk_38 : decode cX3_walk 38 = .ok (.getfield 31, 3) := by decide +kernel
theorem dX3_walk_41 : decode cX3_walk 41 = .ok (.getfield 96, 3) := by decide +kernel
theorem dX3_walk_44 : decode cX3_walk 44 = .ok (.iload 4, 2) := by decide +kernel
theorem dX3_walk_46 : decode cX3_walk 46 = .ok (.iaload, 1) := by decide +kernel
theorem dX3_walk_47 : decode cX3_walk 47 = .ok (.iconst 3, 1) := by decide +kernel
theorem dX3_walk_48 : decode cX3_walk 48 = .ok (.if_icmp .ne 27, 3) := by decide +kernel
theorem dX3_walk_51 : decode cX3_walk 51 = .ok (.iload 5, 2) := by decide +kernel
theorem dX3_walk_53 : decode cX3_walk 53 = .ok (.ldc 107, 2) := by decide +kernel
theorem dX3_walk_55 : decode cX3_walk 55 = .ok (.imul, 1) := by decide +kernel
theorem dX3_walk_56 : decode cX3_walk 56 = .ok (.sipush 12345, 3) := by decide +kernel
theorem dX3_walk_59 : decode cX3_walk 59 = .ok (.iadd, 1) := by decide +kernel
theorem dX3_walk_60 : decode cX3_walk 60 = .ok (.istore 5, 2) := by decide +kernel
theorem dX3_walk_62 : decode cX3_walk 62 = .ok (.aload_n 0, 1) := by decide +kernel
theorem dX3_walk_63 : decode cX3_walk 63 = .ok (.iload 4, 2) := by decide +kernel
theorem dX3_walk_65 : decode cX3_walk 65 = .ok (.iload 5, 2) := by decide +kernel
theorem dX3_walk_67 : decode cX3_walk 67 = .ok (.bipush 8, 2) := by decide +kernel
theorem dX3_walk_69 : decode cX3_walk 69 = .ok (.iushr, 1) := by decide +kernel
theorem dX3_walk_70 : decode cX3_walk 70 = .ok (.invokevirtual 108, 3) := by decide +kernel
theorem dX3_walk_73 : decode cX3_walk 73 = .ok (.istore 7, 2) := by decide +kernel
theorem dX3_walk_75 : decode cX3_walk 75 = .ok (.aload_n 0, 1) := by decide +kernel
theorem dX3_walk_76 : decode cX3_walk 76 = .ok (.getfield 31, 3) := by decide +kernel
theorem dX3_walk_79 : decode cX3_walk 79 = .ok (.iload 4, 2) := by decide +kernel
theorem dX3_walk_81 : decode cX3_walk 81 = .ok (.iload 7, 2) := by decide +kernel
theorem dX3_walk_83 : decode cX3_walk 83 = .ok (.invokevirtual 112, 3) := by decide +kernel
theorem dX3_walk_86 : decode cX3_walk 86 = .ok (.istore 4, 2) := by decide +kernel
theorem dX3_walk_88 : decode cX3_walk 88 = .ok (.iinc 6 1, 3) := by decide +kernel
theorem dX3_walk_91 : decode cX3_walk 91 = .ok (.goto (-82), 3) := by decide +kernel
theorem dX3_walk_94 : decode cX3_walk 94 = .ok (.iload 4, 2) := by decide +kernel
theorem dX3_walk_96 : decode cX3_walk 96 = .ok (.ireturn, 1) := by decide +kernel
theorem dX3_worthless_0 : decode cX3_worthless 0 = .ok (.iconst 0, 1) := by decide +kernel
theorem dX3_worthless_1 : decode cX3_worthless 1 = .ok (.istore_n 1, 1) := by decide +kernel
theorem dX3_worthless_2 : decode cX3_worthless 2 = .ok (.iconst 0, 1) := by decide +kernel
theorem dX3_worthless_3 : decode cX3_worthless 3 = .ok (.istore_n 2, 1) := by decide +kernel
theorem dX3_worthless_4 : decode cX3_worthless 4 = .ok (.iload_n 2, 1) := by decide +kernel
theorem dX3_worthless_5 : decode cX3_worthless 5 = .ok (.aload_n 0, 1) := by decide +kernel
theorem dX3_worthless_6 : decode cX3_worthless 6 = .ok (.getfield 31, 3) := by decide +kernel
theorem dX3_worthless_9 : decode cX3_worthless 9 = .ok (.getfield 63, 3) := by decide +kernel
theorem dX3_worthless_12 : decode cX3_worthless 12 = .ok (.if_icmp .ge 29, 3) := by decide +kernel
theorem dX3_worthless_15 : decode cX3_worthless 15 = .ok (.aload_n 0, 1) := by decide +kernel
theorem dX3_worthless_16 : decode cX3_worthless 16 = .ok (.getfield 18, 3) := by decide +kernel
theorem dX3_worthless_19 : decode cX3_worthless 19 = .ok (.getfield 99, 3) := by decide +kernel
theorem dX3_worthless_22 : decode cX3_worthless 22 = .ok (.iload_n 2, 1) := by decide +kernel
theorem dX3_worthless_23 : decode cX3_worthless 23 = .ok (.laload, 1) := by decide +kernel
theorem dX3_worthless_24 : decode cX3_worthless 24 = .ok (.lconst 0, 1) := by decide +kernel
theorem dX3_worthless_25 : decode cX3_worthless 25 = .ok (.lcmp, 1) := by decide +kernel
theorem dX3_worthless_26 : decode cX3_worthless 26 = .ok (.ifCond .ne 9, 3) := by decide +kernel
theorem dX3_worthless_29 : decode cX3_worthless 29 = .ok (.iload_n 1, 1) := by decide +kernel
theorem dX3_worthless_30 : decode cX3_worthless 30 = .ok (.iconst 1, 1) := by decide +kernel
theorem dX3_worthless_31 : decode cX3_worthless 31 = .ok (.iload_n 2, 1) := by decide +kernel
theorem dX3_worthless_32 : decode cX3_worthless 32 = .ok (.ishl, 1) := by decide +kernel
theorem dX3_worthless_33 : decode cX3_worthless 33 = .ok (.ior, 1) := by decide +kernel
theorem dX3_worthless_34 : decode cX3_worthless 34 = .ok (.istore_n 1, 1) := by decide +kernel
theorem dX3_worthless_35 : decode cX3_worthless 35 = .ok (.iinc 2 1, 3) := by decide +kernel
theorem dX3_worthless_38 : decode cX3_worthless 38 = .ok (.goto (-34), 3) := by decide +kernel
theorem dX3_worthless_41 : decode cX3_worthless 41 = .ok (.iload_n 1, 1) := by decide +kernel
theorem dX3_worthless_42 : decode cX3_worthless 42 = .ok (.ireturn, 1) := by decide +kernel
set_option maxHeartbeats 4000000 in
set_option maxRecDepth 100000 in
theorem c_X3_findReach (l : Launch) (D : va_G) (g : Nat → ClassId) (sz : Nat) (oc : Nat) (n : Nat) (sv : Nat) (oc_plan : Nat) (ow : Nat) (ol : Nat) (oc_reach : Nat) (oc_ringBits : Nat) (orc : Int32) (orn : Int32) (ose : Int32) (co : Nat) (sv_keep : Nat) (sv_scaled : Nat) (eq : Nat) (co_place : Nat) (n_nodes : Int32) (n_kind : Nat) (n_pay : Nat) (n_name : Nat) (n_ways : Nat) (n_held : Nat) (n_targets : Nat) (n_weights : Nat) (n_fkind : Nat → Int32) (n_fways : Nat → Int32) (n_ftargets : Nat → Int32) (n_fweights : Nat → Int32) (opf : Nat → Int32) (orf : Nat → Int32) (h_orc : 0 ≤ (orc : Int32).toInt ∧ (orc : Int32).toInt ≤ 12) (h_ose : 0 ≤ (ose : Int32).toInt ∧ (ose : Int32).toInt ≤ 1) (h_n_nodes : 0 ≤ (n_nodes : Int32).toInt ∧ (n_nodes : Int32).toInt ≤ 12) (h_n_fkind : ∀ j : Nat, 0 ≤ (n_fkind j).toInt ∧ (n_fkind j).toInt ≤ 3) (h_n_fways : ∀ j : Nat, 0 ≤ (n_fways j).toInt ∧ (n_fways j).toInt ≤ 3) (h_n_ftargets : ∀ j : Nat, 0 ≤ (n_ftargets j).toInt ∧ (n_ftargets j).toInt ≤ 11) (h_opf : ∀ j : Nat, 0 ≤ (opf j).toInt ∧ (opf j).toInt ≤ 2) : Met l yX3_findReach (.code yX3_findReach cX3_findReach 3 none :: wsL_law) ({ frames := 2, cells := 0, slots := 0, locals := 47 }) (va_Pc [.ref oc] (fun U => U.heap.size = sz ∧ va_P D vwCl [(wO3 oc n sv oc_plan ow ol oc_reach oc_ringBits orc orn ose), (wO6 sv n co sv_keep sv_scaled), (wO0 co n eq co_place), (wO2 n n_nodes n_kind n_pay n_name n_ways n_held n_targets n_weights), (wI g n_kind 0 12 n_fkind), (wI g n_ways 0 12 n_fways), (wI g n_targets 0 36 n_ftargets), (wI g n_weights 0 36 n_fweights), (wI g oc_plan 0 12 opf), (wI g oc_reach 0 12 orf)] U.heap ∧ va_K D vwCl (TY g) U ∧ va_D (fun _ => True) [(wO3 oc n sv oc_plan ow ol oc_reach oc_ringBits orc orn ose), (wO6 sv n co sv_keep sv_scaled), (wO0 co n eq co_place), (wO2 n n_nodes n_kind n_pay n_name n_ways n_held n_targets n_weights), (wI g n_kind 0 12 n_fkind), (wI g n_ways 0 12 n_fways), (wI g n_targets 0 36 n_ftargets), (wI g n_weights 0 36 n_fweights), (wI g oc_plan 0 12 opf), (wI g oc_reach 0 12 orf)])) (va_Qv (fun (_ : Unit) => True) (fun _ t => ∃ xrf : Nat → Int32, va_P D vwCl [(wO3 oc n sv oc_plan ow ol oc_reach oc_ringBits orc orn ose), (wO6 sv n co sv_keep sv_scaled), (wO0 co n eq co_place), (wO2 n n_nodes n_kind n_pay n_name n_ways n_held n_targets n_weights), (wI g n_kind 0 12 n_fkind), (wI g n_ways 0 12 n_fways), (wI g n_targets 0 36 n_ftargets), (wI g n_weights 0 36 n_fweights), (wI g oc_plan 0 12 opf), (wI g oc_reach 0 12 xrf)] t.heap ∧ va_D (va_A [(wO3 oc n sv oc_plan ow ol oc_reach oc_ringBits orc orn ose), (wO6 sv n co sv_keep sv_scaled), (wO0 co n eq co_place), (wO2 n n_nodes n_kind n_pay n_name n_ways n_held n_targets n_weights), (wI g n_kind 0 12 n_fkind), (wI g n_ways 0 12 n_fways), (wI g n_targets 0 36 n_ftargets), (wI g n_weights 0 36 n_fweights), (wI g oc_plan 0 12 opf), (wI g oc_reach 0 12 orf)] sz) [(wO3 oc n sv oc_plan ow ol oc_reach oc_ringBits orc orn ose), (wO6 sv n co sv_keep sv_scaled), (wO0 co n eq co_place), (wO2 n n_nodes n_kind n_pay n_name n_ways n_held n_targets n_weights), (wI g n_kind 0 12 n_fkind), (wI g n_ways 0 12 n_fways), (wI g n_targets 0 36 n_ftargets), (wI g n_weights 0 36 n_fweights), (wI g oc_plan 0 12 opf), (wI g oc_reach 0 12 xrf)]) (va_A [(wO3 oc n sv oc_plan ow ol oc_reach oc_ringBits orc orn ose), (wO6 sv n co sv_keep sv_scaled), (wO0 co n eq co_place), (wO2 n n_nodes n_kind n_pay n_name n_ways n_held n_targets n_weights), (wI g n_kind 0 12 n_fkind), (wI g n_ways 0 12 n_fways), (wI g n_targets 0 36 n_ftargets), (wI g n_weights 0 36 n_fweights), (wI g oc_plan 0 12 opf), (wI g oc_reach 0 12 orf)] sz)) 0 0 (va_A [(wO3 oc n sv oc_plan ow ol oc_reach oc_ringBits orc orn ose), (wO6 sv n co sv_keep sv_scaled), (wO0 co n eq co_place), (wO2 n n_nodes n_kind n_pay n_name n_ways n_held n_targets n_weights), (wI g n_kind 0 12 n_fkind), (wI g n_ways 0 12 n_fways), (wI g n_targets 0 36 n_ftargets), (wI g n_weights 0 36 n_fweights), (wI g oc_plan 0 12 opf), (wI g oc_reach 0 12 orf)] sz) := by
  refine Met.ofW (cc := cX3_findReach) (maxL := 3) (ret := none) (by decide) rfl ?_
  intro p e s m args below meth c s₁ B hml hv
  obtain ⟨ha, hsz, hP, hK, hD0⟩ := hv
  have hx := B.exec
  have hb := B.bytes
  have hr := B.returns
  have hts0 := atoms_spec (ws := (.code yX3_findReach cX3_findReach 3 none :: wsL_law)) B.pre
  have hts : ∀ w ∈ wsL_law, w.before args s = true := fun w h => hts0 w (List.mem_cons_of_mem _ h)
  have hown : s.vm.findClass RX3 = some m.cls := findClass_of_methodNamed B.named
  have hlocks := B.notSynchronized
  subst hsz
  have hD := hD0.self (sz := s.heap.size)
  generalize hAe : va_A [(wO3 oc n sv oc_plan ow ol oc_reach oc_ringBits orc orn ose), (wO6 sv n co sv_keep sv_scaled), (wO0 co n eq co_place), (wO2 n n_nodes n_kind n_pay n_name n_ways n_held n_targets n_weights), (wI g n_kind 0 12 n_fkind), (wI g n_ways 0 12 n_fways), (wI g n_targets 0 36 n_ftargets), (wI g n_weights 0 36 n_fweights), (wI g oc_plan 0 12 opf), (wI g oc_reach 0 12 orf)] s.heap.size = A at hD ⊢
  have hA : ∀ q : Nat, s.heap.size ≤ q → A q := fun q h => by rw [← hAe]; exact Or.inr h
  have hS : va_S A s.heap s.heap [] := va_S.rf
  have hP : va_P D vwCl [(wO3 oc n sv oc_plan ow ol oc_reach oc_ringBits orc orn ose), (wO6 sv n co sv_keep sv_scaled), (wO0 co n eq co_place), (wO2 n n_nodes n_kind n_pay n_name n_ways n_held n_targets n_weights), (wI g n_kind 0 12 n_fkind), (wI g n_ways 0 12 n_fways), (wI g n_targets 0 36 n_ftargets), (wI g n_weights 0 36 n_fweights), (wI g oc_plan 0 12 opf), (wI g oc_reach 0 12 orf)] s.heap := hP
  refine W.eq (g2 := entryFrame m ([.ref oc] : List Value).toArray 3) (by rw [ha]) ?_
  have hl := lv_entry ([.ref oc]) (n := 3) (Nat.le_of_ble_eq_true rfl)
  rw [lg_entry_eq]
  generalize (lg_sl ([.ref oc]) ++ List.replicate (3 - (lg_sl ([.ref oc])).length) Slot.unset).toArray = ls at hl ⊢
  have hl : lv_has ls 3 [(0, .ref oc)] := hl
  refine lv_iconst (v := 0) hx hb dX3_findReach_0 (by decide) ?_
  refine lv_istore_n (lv' := [(1, .int 0), (0, .ref oc)]) hx hb dX3_findReach_1 rfl hl (by decide) rfl (fun ls hl => ?_)
  have lp_100050 : ∀ (n_100050 : Nat) (x_100048 : Int32) (f_100049 : Nat → Int32) (H : Heap) (locs : List Loc) (ls : Array Slot), (0 ≤ (x_100048 : Int32).toInt ∧ (x_100048 : Int32).toInt ≤ 12) → (12 - x_100048.toInt < (n_100050 : Int)) → va_P D vwCl [(wO3 oc n sv oc_plan ow ol oc_reach oc_ringBits orc orn ose), (wO6 sv n co sv_keep sv_scaled), (wO0 co n eq co_place), (wO2 n n_nodes n_kind n_pay n_name n_ways n_held n_targets n_weights), (wI g n_kind 0 12 n_fkind), (wI g n_ways 0 12 n_fways), (wI g n_targets 0 36 n_ftargets), (wI g n_weights 0 36 n_fweights), (wI g oc_plan 0 12 opf), (wI g oc_reach 0 12 f_100049)] H → va_D A [(wO3 oc n sv oc_plan ow ol oc_reach oc_ringBits orc orn ose), (wO6 sv n co sv_keep sv_scaled), (wO0 co n eq co_place), (wO2 n n_nodes n_kind n_pay n_name n_ways n_held n_targets n_weights), (wI g n_kind 0 12 n_fkind), (wI g n_ways 0 12 n_fways), (wI g n_targets 0 36 n_ftargets), (wI g n_weights 0 36 n_fweights), (wI g oc_plan 0 12 opf), (wI g oc_reach 0 12 f_100049)] → va_S A s.heap H locs → lv_has ls 3 [(1, .int x_100048), (0, .ref oc)] → W p l e (headSpec (.code yX3_findReach cX3_findReach 3 none :: wsL_law) ({ frames := 2, cells := 0, slots := 0, locals := 47 })).room s m args below meth c H locs 0 0 (MQ below (va_Qv (fun (_ : Unit) => True) (fun _ t => ∃ xrf : Nat → Int32, va_P D vwCl [(wO3 oc n sv oc_plan ow ol oc_reach oc_ringBits orc orn ose), (wO6 sv n co sv_keep sv_scaled), (wO0 co n eq co_place), (wO2 n n_nodes n_kind n_pay n_name n_ways n_held n_targets n_weights), (wI g n_kind 0 12 n_fkind), (wI g n_ways 0 12 n_fways), (wI g n_targets 0 36 n_ftargets), (wI g n_weights 0 36 n_fweights), (wI g oc_plan 0 12 opf), (wI g oc_reach 0 12 xrf)] t.heap ∧ va_D A [(wO3 oc n sv oc_plan ow ol oc_reach oc_ringBits orc orn ose), (wO6 sv n co sv_keep sv_scaled), (wO0 co n eq co_place), (wO2 n n_nodes n_kind n_pay n_name n_ways n_held n_targets n_weights), (wI g n_kind 0 12 n_fkind), (wI g n_ways 0 12 n_fways), (wI g n_targets 0 36 n_ftargets), (wI g n_weights 0 36 n_fweights), (wI g oc_plan 0 12 opf), (wI g oc_reach 0 12 xrf)]) A) args s 0 0 A) (F0 m 2 ls []) := by
    intro n_100050
    induction n_100050 with
    | zero =>
      intro x_100048 f_100049 H locs ls h_x_100048 hm_100050 hP hD hS hl
      exfalso; omega
    | succ n_100050 ih_100050 =>
      intro x_100048 f_100049 H locs ls h_x_100048 hm_100050 hP hD hS hl
      refine lv_iload_n hx hb dX3_findReach_2 rfl (lv_at hl 0 rfl) ?_
      refine lv_aload_n hx hb dX3_findReach_3 rfl (lv_at hl 1 rfl) ?_
      refine va_get (D := D) (ci := 3) (v := .ref n) (C := RX3) (T := TX3) (N := 10) hx hb hts inlX3 hown hK hP 0 rfl rfl 0 (by decide) (hts (Cond.fieldLink RX3 31 "ChanceRings$Outcome" "net" "LChanceRings$Net;") qw_636) (fun _ h9 => h9) rfl dX3_findReach_4 ?_
      refine va_get (D := D) (ci := 2) (v := .int n_nodes) (C := RX2) (T := TX2) (N := 8) hx hb hts inlX2 hown hK hP 3 rfl rfl 0 (by decide) (hts (Cond.fieldLink RX3 63 "ChanceRings$Net" "nodes" "I") qw_637) (fun _ h9 => h9) rfl dX3_findReach_7 ?_
      refine lv_icmp_ge (tgt := 44) hx hb dX3_findReach_10 (by decide) (fun c_100051 => ?_) (fun c_100051 => ?_)
      · skip
        refine lv_iconst (v := 0) hx hb dX3_findReach_44 (by decide) ?_
        refine lv_istore_n (lv' := [(1, .int 0), (0, .ref oc)]) hx hb dX3_findReach_45 rfl hl (by decide) rfl (fun ls hl => ?_)
        have lp_101181 : ∀ (n_101181 : Nat) (x_101179 : Int32) (f_101180 : Nat → Int32) (H : Heap) (locs : List Loc) (ls : Array Slot), (0 ≤ (x_101179 : Int32).toInt ∧ (x_101179 : Int32).toInt ≤ 12) → (12 - x_101179.toInt < (n_101181 : Int)) → va_P D vwCl [(wO3 oc n sv oc_plan ow ol oc_reach oc_ringBits orc orn ose), (wO6 sv n co sv_keep sv_scaled), (wO0 co n eq co_place), (wO2 n n_nodes n_kind n_pay n_name n_ways n_held n_targets n_weights), (wI g n_kind 0 12 n_fkind), (wI g n_ways 0 12 n_fways), (wI g n_targets 0 36 n_ftargets), (wI g n_weights 0 36 n_fweights), (wI g oc_plan 0 12 opf), (wI g oc_reach 0 12 f_101180)] H → va_D A [(wO3 oc n sv oc_plan ow ol oc_reach oc_ringBits orc orn ose), (wO6 sv n co sv_keep sv_scaled), (wO0 co n eq co_place), (wO2 n n_nodes n_kind n_pay n_name n_ways n_held n_targets n_weights), (wI g n_kind 0 12 n_fkind), (wI g n_ways 0 12 n_fways), (wI g n_targets 0 36 n_ftargets), (wI g n_weights 0 36 n_fweights), (wI g oc_plan 0 12 opf), (wI g oc_reach 0 12 f_101180)] → va_S A s.heap H locs → lv_has ls 3 [(1, .int x_101179), (0, .ref oc)] → W p l e (headSpec (.code yX3_findReach cX3_findReach 3 none :: wsL_law) ({ frames := 2, cells := 0, slots := 0, locals := 47 })).room s m args below meth c H locs 0 0 (MQ below (va_Qv (fun (_ : Unit) => True) (fun _ t => ∃ xrf : Nat → Int32, va_P D vwCl [(wO3 oc n sv oc_plan ow ol oc_reach oc_ringBits orc orn ose), (wO6 sv n co sv_keep sv_scaled), (wO0 co n eq co_place), (wO2 n n_nodes n_kind n_pay n_name n_ways n_held n_targets n_weights), (wI g n_kind 0 12 n_fkind), (wI g n_ways 0 12 n_fways), (wI g n_targets 0 36 n_ftargets), (wI g n_weights 0 36 n_fweights), (wI g oc_plan 0 12 opf), (wI g oc_reach 0 12 xrf)] t.heap ∧ va_D A [(wO3 oc n sv oc_plan ow ol oc_reach oc_ringBits orc orn ose), (wO6 sv n co sv_keep sv_scaled), (wO0 co n eq co_place), (wO2 n n_nodes n_kind n_pay n_name n_ways n_held n_targets n_weights), (wI g n_kind 0 12 n_fkind), (wI g n_ways 0 12 n_fways), (wI g n_targets 0 36 n_ftargets), (wI g n_weights 0 36 n_fweights), (wI g oc_plan 0 12 opf), (wI g oc_reach 0 12 xrf)]) A) args s 0 0 A) (F0 m 46 ls []) := by
          intro n_101181
          induction n_101181 with
          | zero =>
            intro x_101179 f_101180 H locs ls h_x_101179 hm_101181 hP hD hS hl
            exfalso; omega
          | succ n_101181 ih_101181 =>
            intro x_101179 f_101180 H locs ls h_x_101179 hm_101181 hP hD hS hl
            refine lv_iload_n hx hb dX3_findReach_46 rfl (lv_at hl 0 rfl) ?_
            refine lv_aload_n hx hb dX3_findReach_47 rfl (lv_at hl 1 rfl) ?_
            refine va_get (D := D) (ci := 3) (v := .ref n) (C := RX3) (T := TX3) (N := 10) hx hb hts inlX3 hown hK hP 0 rfl rfl 0 (by decide) (hts (Cond.fieldLink RX3 31 "ChanceRings$Outcome" "net" "LChanceRings$Net;") qw_636) (fun _ h9 => h9) rfl dX3_findReach_48 ?_
            refine va_get (D := D) (ci := 2) (v := .int n_nodes) (C := RX2) (T := TX2) (N := 8) hx hb hts inlX2 hown hK hP 3 rfl rfl 0 (by decide) (hts (Cond.fieldLink RX3 63 "ChanceRings$Net" "nodes" "I") qw_637) (fun _ h9 => h9) rfl dX3_findReach_51 ?_
            refine lv_icmp_ge (tgt := 110) hx hb dX3_findReach_54 (by decide) (fun c_101182 => ?_) (fun c_101182 => ?_)
            · skip
              have hP9 := hP.sub (ws' := [(wO3 oc n sv oc_plan ow ol oc_reach oc_ringBits orc orn ose), (wO6 sv n co sv_keep sv_scaled), (wO0 co n eq co_place), (wO2 n n_nodes n_kind n_pay n_name n_ways n_held n_targets n_weights), (wI g n_kind 0 12 n_fkind), (wI g n_ways 0 12 n_fways), (wI g n_targets 0 36 n_ftargets), (wI g n_weights 0 36 n_fweights), (wI g oc_plan 0 12 opf), (wI g oc_reach 0 12 f_101180)]) [0, 1, 2, 3, 4, 5, 6, 7, 8, 9] rfl
              have hD9 := hD.sub (ws' := [(wO3 oc n sv oc_plan ow ol oc_reach oc_ringBits orc orn ose), (wO6 sv n co sv_keep sv_scaled), (wO0 co n eq co_place), (wO2 n n_nodes n_kind n_pay n_name n_ways n_held n_targets n_weights), (wI g n_kind 0 12 n_fkind), (wI g n_ways 0 12 n_fways), (wI g n_targets 0 36 n_ftargets), (wI g n_weights 0 36 n_fweights), (wI g oc_plan 0 12 opf), (wI g oc_reach 0 12 f_101180)]) [0, 1, 2, 3, 4, 5, 6, 7, 8, 9] (by decide) rfl
              exact W.vret hx hb hr (fun t ht hW => ⟨⟨(), rfl, trivial, f_101180, by rw [ht]; exact hP9, hD9⟩, hS.F ht⟩) hS.2.2 dX3_findReach_110
            · skip
              have c_101182_i := Int32.lt_iff_toInt_lt.mp (Int32.not_le.mp c_101182)
              have h_101183 : 0 ≤ (x_101179 : Int32).toInt ∧ (x_101179 : Int32).toInt ≤ 11 := nr_lt_l h_x_101179 h_n_nodes c_101182_i (by decide) (by decide)
              have h_101184 : 1 ≤ (n_nodes : Int32).toInt ∧ (n_nodes : Int32).toInt ≤ 12 := nr_lt_r h_x_101179 h_n_nodes c_101182_i (by decide) (by decide)
              refine lv_iconst (v := 0) hx hb dX3_findReach_57 (by decide) ?_
              refine lv_istore_n (lv' := [(2, .int 0), (1, .int x_101179), (0, .ref oc)]) hx hb dX3_findReach_58 rfl hl (by decide) rfl (fun ls hl => ?_)
              have lp_101308 : ∀ (n_101308 : Nat) (x_101306 : Int32) (f_101307 : Nat → Int32) (H : Heap) (locs : List Loc) (ls : Array Slot), (0 ≤ (x_101306 : Int32).toInt ∧ (x_101306 : Int32).toInt ≤ 12) → (12 - x_101306.toInt < (n_101308 : Int)) → va_P D vwCl [(wO3 oc n sv oc_plan ow ol oc_reach oc_ringBits orc orn ose), (wO6 sv n co sv_keep sv_scaled), (wO0 co n eq co_place), (wO2 n n_nodes n_kind n_pay n_name n_ways n_held n_targets n_weights), (wI g n_kind 0 12 n_fkind), (wI g n_ways 0 12 n_fways), (wI g n_targets 0 36 n_ftargets), (wI g n_weights 0 36 n_fweights), (wI g oc_plan 0 12 opf), (wI g oc_reach 0 12 f_101307)] H → va_D A [(wO3 oc n sv oc_plan ow ol oc_reach oc_ringBits orc orn ose), (wO6 sv n co sv_keep sv_scaled), (wO0 co n eq co_place), (wO2 n n_nodes n_kind n_pay n_name n_ways n_held n_targets n_weights), (wI g n_kind 0 12 n_fkind), (wI g n_ways 0 12 n_fways), (wI g n_targets 0 36 n_ftargets), (wI g n_weights 0 36 n_fweights), (wI g oc_plan 0 12 opf), (wI g oc_reach 0 12 f_101307)] → va_S A s.heap H locs → lv_has ls 3 [(2, .int x_101306), (1, .int x_101179), (0, .ref oc)] → W p l e (headSpec (.code yX3_findReach cX3_findReach 3 none :: wsL_law) ({ frames := 2, cells := 0, slots := 0, locals := 47 })).room s m args below meth c H locs 0 0 (MQ below (va_Qv (fun (_ : Unit) => True) (fun _ t => ∃ xrf : Nat → Int32, va_P D vwCl [(wO3 oc n sv oc_plan ow ol oc_reach oc_ringBits orc orn ose), (wO6 sv n co sv_keep sv_scaled), (wO0 co n eq co_place), (wO2 n n_nodes n_kind n_pay n_name n_ways n_held n_targets n_weights), (wI g n_kind 0 12 n_fkind), (wI g n_ways 0 12 n_fways), (wI g n_targets 0 36 n_ftargets), (wI g n_weights 0 36 n_fweights), (wI g oc_plan 0 12 opf), (wI g oc_reach 0 12 xrf)] t.heap ∧ va_D A [(wO3 oc n sv oc_plan ow ol oc_reach oc_ringBits orc orn ose), (wO6 sv n co sv_keep sv_scaled), (wO0 co n eq co_place), (wO2 n n_nodes n_kind n_pay n_name n_ways n_held n_targets n_weights), (wI g n_kind 0 12 n_fkind), (wI g n_ways 0 12 n_fways), (wI g n_targets 0 36 n_ftargets), (wI g n_weights 0 36 n_fweights), (wI g oc_plan 0 12 opf), (wI g oc_reach 0 12 xrf)]) A) args s 0 0 A) (F0 m 59 ls []) := by
                intro n_101308
                induction n_101308 with
                | zero =>
                  intro x_101306 f_101307 H locs ls h_x_101306 hm_101308 hP hD hS hl
                  exfalso; omega
                | succ n_101308 ih_101308 =>
                  intro x_101306 f_101307 H locs ls h_x_101306 hm_101308 hP hD hS hl
                  refine lv_iload_n hx hb dX3_findReach_59 rfl (lv_at hl 0 rfl) ?_
                  refine lv_aload_n hx hb dX3_findReach_60 rfl (lv_at hl 2 rfl) ?_
                  refine va_get (D := D) (ci := 3) (v := .ref n) (C := RX3) (T := TX3) (N := 10) hx hb hts inlX3 hown hK hP 0 rfl rfl 0 (by decide) (hts (Cond.fieldLink RX3 31 "ChanceRings$Outcome" "net" "LChanceRings$Net;") qw_636) (fun _ h9 => h9) rfl dX3_findReach_61 ?_
                  refine va_get (D := D) (ci := 2) (v := .int n_nodes) (C := RX2) (T := TX2) (N := 8) hx hb hts inlX2 hown hK hP 3 rfl rfl 0 (by decide) (hts (Cond.fieldLink RX3 63 "ChanceRings$Net" "nodes" "I") qw_637) (fun _ h9 => h9) rfl dX3_findReach_64 ?_
                  refine lv_icmp_ge (tgt := 104) hx hb dX3_findReach_67 (by decide) (fun c_101309 => ?_) (fun c_101309 => ?_)
                  · skip
                    have c_101309_i := Int32.le_iff_toInt_le.mp c_101309
                    have h_101310 : 1 ≤ (x_101306 : Int32).toInt ∧ (x_101306 : Int32).toInt ≤ 12 := nr_le_r h_101184 h_x_101306 c_101309_i (by decide) (by decide)
                    obtain ⟨v_101312, v_101312_e⟩ : ∃ y : Int32, y = x_101179 + Int32.ofInt 1 := ⟨_, rfl⟩
                    have h_v_101312 : 1 ≤ (v_101312 : Int32).toInt ∧ (v_101312 : Int32).toInt ≤ 12 := by rw [v_101312_e]; exact tr_add h_101183 (⟨by decide, by decide⟩ : 1 ≤ (Int32.ofInt 1 : Int32).toInt ∧ (Int32.ofInt 1 : Int32).toInt ≤ 1) (by decide) (by decide) (by decide) (by decide)
                    have q_v_101312 : v_101312.toInt = x_101179.toInt + 1 := by rw [v_101312_e]; exact tr_addE h_101183 (⟨by decide, by decide⟩ : 1 ≤ (Int32.ofInt 1 : Int32).toInt ∧ (Int32.ofInt 1 : Int32).toInt ≤ 1) (by decide) (by decide)
                    refine lv_iinc (v := v_101312) (lv' := [(1, .int v_101312), (2, .int x_101306), (0, .ref oc)]) hx hb dX3_findReach_104 hl (k := 1) rfl v_101312_e.symm (by decide) rfl (fun ls hl => ?_)
                    refine lv_goto (tgt := 46) hx hb dX3_findReach_107 (by decide) ?_
                    exact ih_101181 v_101312 f_101307 H _ ls (tr_w h_v_101312 (by decide) (by decide)) (by omega) (hP.sub [0, 1, 2, 3, 4, 5, 6, 7, 8, 9] rfl) (hD.sub [0, 1, 2, 3, 4, 5, 6, 7, 8, 9] (by decide) rfl) hS (lv_sub hl [0, 2] rfl)
                  · skip
                    have c_101309_i := Int32.lt_iff_toInt_lt.mp (Int32.not_le.mp c_101309)
                    have h_101311 : 0 ≤ (x_101306 : Int32).toInt ∧ (x_101306 : Int32).toInt ≤ 11 := nr_lt_l h_x_101306 h_101184 c_101309_i (by decide) (by decide)
                    refine lv_aload_n hx hb dX3_findReach_70 rfl (lv_at hl 2 rfl) ?_
                    refine va_get (D := D) (ci := 3) (v := .ref oc_reach) (C := RX3) (T := TX3) (N := 10) hx hb hts inlX3 hown hK hP 0 rfl rfl 5 (by decide) (hts (Cond.fieldLink RX3 25 "ChanceRings$Outcome" "reach" "[I") qw_638) (fun _ h9 => h9) rfl dX3_findReach_71 ?_
                    refine lv_iload_n hx hb dX3_findReach_74 rfl (lv_at hl 0 rfl) ?_
                    refine va_iald hx hb hK hP 9 0 rfl rfl (tr_in h_101311 (by decide) (by decide)) dX3_findReach_75 ?_
                    refine lv_topi (fun v_101313 v_101313_e => ?_)
                    refine lv_iload_n hx hb dX3_findReach_76 rfl (lv_at hl 1 rfl) ?_
                    refine lv_ishr hx hb dX3_findReach_77 ?_
                    refine lv_topi (fun v_101314 v_101314_e => ?_)
                    refine lv_iconst (v := 1) hx hb dX3_findReach_78 (by decide) ?_
                    refine lv_iand hx hb dX3_findReach_79 ?_
                    refine lv_topi (fun v_101315 v_101315_e => ?_)
                    refine lv_if_eq (tgt := 98) hx hb dX3_findReach_80 (by decide) (fun c_101316 => ?_) (fun c_101316 => ?_)
                    · skip
                      have h_101317 : 0 ≤ (v_101315 : Int32).toInt ∧ (v_101315 : Int32).toInt ≤ 0 := by rw [c_101316]; exact ⟨by decide, by decide⟩
                      obtain ⟨v_101318, v_101318_e⟩ : ∃ y : Int32, y = x_101306 + Int32.ofInt 1 := ⟨_, rfl⟩
                      have h_v_101318 : 1 ≤ (v_101318 : Int32).toInt ∧ (v_101318 : Int32).toInt ≤ 12 := by rw [v_101318_e]; exact tr_add h_101311 (⟨by decide, by decide⟩ : 1 ≤ (Int32.ofInt 1 : Int32).toInt ∧ (Int32.ofInt 1 : Int32).toInt ≤ 1) (by decide) (by decide) (by decide) (by decide)
                      have q_v_101318 : v_101318.toInt = x_101306.toInt + 1 := by rw [v_101318_e]; exact tr_addE h_101311 (⟨by decide, by decide⟩ : 1 ≤ (Int32.ofInt 1 : Int32).toInt ∧ (Int32.ofInt 1 : Int32).toInt ≤ 1) (by decide) (by decide)
                      refine lv_iinc (v := v_101318) (lv' := [(2, .int v_101318), (1, .int x_101179), (0, .ref oc)]) hx hb dX3_findReach_98 hl (k := 0) rfl v_101318_e.symm (by decide) rfl (fun ls hl => ?_)
                      refine lv_goto (tgt := 59) hx hb dX3_findReach_101 (by decide) ?_
                      exact ih_101308 v_101318 f_101307 H _ ls (tr_w h_v_101318 (by decide) (by decide)) (by (first | (clear h_orc h_ose h_x_100048 h_x_101179 h_101183 h_101317; omega) | omega)) (hP.sub [0, 1, 2, 3, 4, 5, 6, 7, 8, 9] rfl) (hD.sub [0, 1, 2, 3, 4, 5, 6, 7, 8, 9] (by decide) rfl) hS (lv_sub hl [0, 1, 2] rfl)
                    · skip
                      refine lv_aload_n hx hb dX3_findReach_83 rfl (lv_at hl 2 rfl) ?_
                      refine va_get (D := D) (ci := 3) (v := .ref oc_reach) (C := RX3) (T := TX3) (N := 10) hx hb hts inlX3 hown hK hP 0 rfl rfl 5 (by decide) (hts (Cond.fieldLink RX3 25 "ChanceRings$Outcome" "reach" "[I") qw_638) (fun _ h9 => h9) rfl dX3_findReach_84 ?_
                      refine lv_iload_n hx hb dX3_findReach_87 rfl (lv_at hl 0 rfl) ?_
                      refine lv_dup2_11 hx hb dX3_findReach_88 rfl rfl ?_
                      refine va_iald hx hb hK hP 9 0 rfl rfl (tr_in h_101311 (by decide) (by decide)) dX3_findReach_89 ?_
                      refine tz_i (y := v_101313) v_101313_e.symm ?_
                      refine lv_aload_n hx hb dX3_findReach_90 rfl (lv_at hl 2 rfl) ?_
                      refine va_get (D := D) (ci := 3) (v := .ref oc_reach) (C := RX3) (T := TX3) (N := 10) hx hb hts inlX3 hown hK hP 0 rfl rfl 5 (by decide) (hts (Cond.fieldLink RX3 25 "ChanceRings$Outcome" "reach" "[I") qw_638) (fun _ h9 => h9) rfl dX3_findReach_91 ?_
                      refine lv_iload_n hx hb dX3_findReach_94 rfl (lv_at hl 1 rfl) ?_
                      refine va_iald hx hb hK hP 9 0 rfl rfl (tr_in h_101183 (by decide) (by decide)) dX3_findReach_95 ?_
                      refine lv_topi (fun v_101319 v_101319_e => ?_)
                      refine lv_ior hx hb dX3_findReach_96 ?_
                      refine lv_topi (fun v_101320 v_101320_e => ?_)
                      refine va_iast hx hb hK hP hD hS 9 0 rfl rfl (tr_in h_101311 (by decide) (by decide)) dX3_findReach_97 (fun H locs hP hD hS => ?_)
                      obtain ⟨f_101321, hP, hD⟩ : ∃ FX : Nat → Int32, va_P D vwCl [(wO3 oc n sv oc_plan ow ol oc_reach oc_ringBits orc orn ose), (wO6 sv n co sv_keep sv_scaled), (wO0 co n eq co_place), (wO2 n n_nodes n_kind n_pay n_name n_ways n_held n_targets n_weights), (wI g n_kind 0 12 n_fkind), (wI g n_ways 0 12 n_fways), (wI g n_targets 0 36 n_ftargets), (wI g n_weights 0 36 n_fweights), (wI g oc_plan 0 12 opf), (wI g oc_reach 0 12 FX)] H ∧ va_D A [(wO3 oc n sv oc_plan ow ol oc_reach oc_ringBits orc orn ose), (wO6 sv n co sv_keep sv_scaled), (wO0 co n eq co_place), (wO2 n n_nodes n_kind n_pay n_name n_ways n_held n_targets n_weights), (wI g n_kind 0 12 n_fkind), (wI g n_ways 0 12 n_fways), (wI g n_targets 0 36 n_ftargets), (wI g n_weights 0 36 n_fweights), (wI g oc_plan 0 12 opf), (wI g oc_reach 0 12 FX)] := ⟨_, hP, hD⟩
                      have hP : va_P D vwCl [(wO3 oc n sv oc_plan ow ol oc_reach oc_ringBits orc orn ose), (wO6 sv n co sv_keep sv_scaled), (wO0 co n eq co_place), (wO2 n n_nodes n_kind n_pay n_name n_ways n_held n_targets n_weights), (wI g n_kind 0 12 n_fkind), (wI g n_ways 0 12 n_fways), (wI g n_targets 0 36 n_ftargets), (wI g n_weights 0 36 n_fweights), (wI g oc_plan 0 12 opf), (wI g oc_reach 0 12 f_101321)] H := hP
                      have hD : va_D A [(wO3 oc n sv oc_plan ow ol oc_reach oc_ringBits orc orn ose), (wO6 sv n co sv_keep sv_scaled), (wO0 co n eq co_place), (wO2 n n_nodes n_kind n_pay n_name n_ways n_held n_targets n_weights), (wI g n_kind 0 12 n_fkind), (wI g n_ways 0 12 n_fways), (wI g n_targets 0 36 n_ftargets), (wI g n_weights 0 36 n_fweights), (wI g oc_plan 0 12 opf), (wI g oc_reach 0 12 f_101321)] := hD
                      obtain ⟨v_101322, v_101322_e⟩ : ∃ y : Int32, y = x_101306 + Int32.ofInt 1 := ⟨_, rfl⟩
                      have h_v_101322 : 1 ≤ (v_101322 : Int32).toInt ∧ (v_101322 : Int32).toInt ≤ 12 := by rw [v_101322_e]; exact tr_add h_101311 (⟨by decide, by decide⟩ : 1 ≤ (Int32.ofInt 1 : Int32).toInt ∧ (Int32.ofInt 1 : Int32).toInt ≤ 1) (by decide) (by decide) (by decide) (by decide)
                      have q_v_101322 : v_101322.toInt = x_101306.toInt + 1 := by rw [v_101322_e]; exact tr_addE h_101311 (⟨by decide, by decide⟩ : 1 ≤ (Int32.ofInt 1 : Int32).toInt ∧ (Int32.ofInt 1 : Int32).toInt ≤ 1) (by decide) (by decide)
                      refine lv_iinc (v := v_101322) (lv' := [(2, .int v_101322), (1, .int x_101179), (0, .ref oc)]) hx hb dX3_findReach_98 hl (k := 0) rfl v_101322_e.symm (by decide) rfl (fun ls hl => ?_)
                      refine lv_goto (tgt := 59) hx hb dX3_findReach_101 (by decide) ?_
                      exact ih_101308 v_101322 f_101321 H _ ls (tr_w h_v_101322 (by decide) (by decide)) (by (first | (clear h_orc h_ose h_x_100048 h_x_101179 h_101183; omega) | omega)) (hP.sub [0, 1, 2, 3, 4, 5, 6, 7, 8, 9] rfl) (hD.sub [0, 1, 2, 3, 4, 5, 6, 7, 8, 9] (by decide) rfl) hS (lv_sub hl [0, 1, 2] rfl)
              exact lp_101308 13 0 f_101180 H _ ls (⟨by decide, by decide⟩ : 0 ≤ (0 : Int32).toInt ∧ (0 : Int32).toInt ≤ 12) (by decide) (hP.sub [0, 1, 2, 3, 4, 5, 6, 7, 8, 9] rfl) (hD.sub [0, 1, 2, 3, 4, 5, 6, 7, 8, 9] (by decide) rfl) hS (lv_sub hl [0, 1, 2] rfl)
        exact lp_101181 13 0 f_100049 H _ ls (⟨by decide, by decide⟩ : 0 ≤ (0 : Int32).toInt ∧ (0 : Int32).toInt ≤ 12) (by decide) (hP.sub [0, 1, 2, 3, 4, 5, 6, 7, 8, 9] rfl) (hD.sub [0, 1, 2, 3, 4, 5, 6, 7, 8, 9] (by decide) rfl) hS (lv_sub hl [0, 1] rfl)
      · skip
        have c_100051_i := Int32.lt_iff_toInt_lt.mp (Int32.not_le.mp c_100051)
        have h_100052 : 0 ≤ (x_100048 : Int32).toInt ∧ (x_100048 : Int32).toInt ≤ 11 := nr_lt_l h_x_100048 h_n_nodes c_100051_i (by decide) (by decide)
        have h_100053 : 1 ≤ (n_nodes : Int32).toInt ∧ (n_nodes : Int32).toInt ≤ 12 := nr_lt_r h_x_100048 h_n_nodes c_100051_i (by decide) (by decide)
        refine lv_aload_n hx hb dX3_findReach_13 rfl (lv_at hl 1 rfl) ?_
        refine va_get (D := D) (ci := 3) (v := .ref oc_reach) (C := RX3) (T := TX3) (N := 10) hx hb hts inlX3 hown hK hP 0 rfl rfl 5 (by decide) (hts (Cond.fieldLink RX3 25 "ChanceRings$Outcome" "reach" "[I") qw_638) (fun _ h9 => h9) rfl dX3_findReach_14 ?_
        refine lv_iload_n hx hb dX3_findReach_17 rfl (lv_at hl 0 rfl) ?_
        refine lv_iconst (v := 1) hx hb dX3_findReach_18 (by decide) ?_
        refine lv_iload_n hx hb dX3_findReach_19 rfl (lv_at hl 0 rfl) ?_
        refine lv_ishl hx hb dX3_findReach_20 ?_
        refine lv_topi (fun v_101323 v_101323_e => ?_)
        refine lv_aload_n hx hb dX3_findReach_21 rfl (lv_at hl 1 rfl) ?_
        refine va_get (D := D) (ci := 3) (v := .ref sv) (C := RX3) (T := TX3) (N := 10) hx hb hts inlX3 hown hK hP 0 rfl rfl 1 (by decide) (hts (Cond.fieldLink RX3 35 "ChanceRings$Outcome" "solver" "LChanceRings$Solver;") qw_639) (fun _ h9 => h9) rfl dX3_findReach_22 ?_
        refine va_get (D := D) (ci := 6) (v := .ref co) (C := RX6) (T := TX6) (N := 4) hx hb hts inlX6 hown hK hP 1 rfl rfl 1 (by decide) (hts (Cond.fieldLink RX3 73 "ChanceRings$Solver" "course" "LChanceRings$Course;") qw_640) (fun _ h9 => h9) rfl dX3_findReach_25 ?_
        refine lv_aload_n hx hb dX3_findReach_28 rfl (lv_at hl 1 rfl) ?_
        refine va_get (D := D) (ci := 3) (v := .ref oc_plan) (C := RX3) (T := TX3) (N := 10) hx hb hts inlX3 hown hK hP 0 rfl rfl 2 (by decide) (hts (Cond.fieldLink RX3 9 "ChanceRings$Outcome" "plan" "[I") qw_641) (fun _ h9 => h9) rfl dX3_findReach_29 ?_
        refine lv_iload_n hx hb dX3_findReach_32 rfl (lv_at hl 0 rfl) ?_
        have hPc := hP.sub (ws' := [(wO0 co n eq co_place), (wO2 n n_nodes n_kind n_pay n_name n_ways n_held n_targets n_weights), (wI g n_kind 0 12 n_fkind), (wI g n_ways 0 12 n_fways), (wI g n_targets 0 36 n_ftargets), (wI g n_weights 0 36 n_fweights), (wI g oc_plan 0 12 opf)]) [2, 3, 4, 5, 6, 7, 8] rfl
        refine vp_callSi (va_Run.run (va_runV (As := [.ref oc_plan, .int x_100048]) (rest := [.int v_101323, .int x_100048, .ref oc_reach]) ⟨hx, hb, hml, hown, hts⟩ (c_X0_follow l D g co oc_plan x_100048 n eq co_place n_nodes n_kind n_pay n_name n_ways n_held n_targets n_weights n_fkind n_fways n_ftargets n_fweights opf (tr_w h_100052 (by decide) (by decide)) (tr_w h_100053 (by decide) (by decide)) (tr_wa h_n_fkind (by decide) (by decide)) (tr_wa h_n_fways (by decide) (by decide)) (tr_wa h_n_ftargets (by decide) (by decide)) (tr_wa h_opf (by decide) (by decide))) (cwV 2 hts (tz_gV qw_642 qw_567 qw_568 qw_490 qw_569) rfl rfl rfl (by decide +kernel) ⟨Nat.le_of_ble_eq_true rfl, Nat.le_of_ble_eq_true rfl⟩) ⟨tz_blS, va_recv hK hPc (ci := 0) (q0 := 0) rfl rfl, tz_preS hPc hK⟩ rfl rfl hl.1 rfl (lv_room (Nat.le_of_ble_eq_true rfl)) dX3_findReach_33 ⟨Nat.le_of_ble_eq_true rfl, Nat.le_of_ble_eq_true rfl⟩)) (fun r_101324 hw => ?_)
        refine lv_ior hx hb dX3_findReach_36 ?_
        refine lv_topi (fun v_101325 v_101325_e => ?_)
        refine va_iast hx hb hK hP hD hS 9 0 rfl rfl (tr_in h_100052 (by decide) (by decide)) dX3_findReach_37 (fun H locs hP hD hS => ?_)
        obtain ⟨f_101326, hP, hD⟩ : ∃ FX : Nat → Int32, va_P D vwCl [(wO3 oc n sv oc_plan ow ol oc_reach oc_ringBits orc orn ose), (wO6 sv n co sv_keep sv_scaled), (wO0 co n eq co_place), (wO2 n n_nodes n_kind n_pay n_name n_ways n_held n_targets n_weights), (wI g n_kind 0 12 n_fkind), (wI g n_ways 0 12 n_fways), (wI g n_targets 0 36 n_ftargets), (wI g n_weights 0 36 n_fweights), (wI g oc_plan 0 12 opf), (wI g oc_reach 0 12 FX)] H ∧ va_D A [(wO3 oc n sv oc_plan ow ol oc_reach oc_ringBits orc orn ose), (wO6 sv n co sv_keep sv_scaled), (wO0 co n eq co_place), (wO2 n n_nodes n_kind n_pay n_name n_ways n_held n_targets n_weights), (wI g n_kind 0 12 n_fkind), (wI g n_ways 0 12 n_fways), (wI g n_targets 0 36 n_ftargets), (wI g n_weights 0 36 n_fweights), (wI g oc_plan 0 12 opf), (wI g oc_reach 0 12 FX)] := ⟨_, hP, hD⟩
        have hP : va_P D vwCl [(wO3 oc n sv oc_plan ow ol oc_reach oc_ringBits orc orn ose), (wO6 sv n co sv_keep sv_scaled), (wO0 co n eq co_place), (wO2 n n_nodes n_kind n_pay n_name n_ways n_held n_targets n_weights), (wI g n_kind 0 12 n_fkind), (wI g n_ways 0 12 n_fways), (wI g n_targets 0 36 n_ftargets), (wI g n_weights 0 36 n_fweights), (wI g oc_plan 0 12 opf), (wI g oc_reach 0 12 f_101326)] H := hP
        have hD : va_D A [(wO3 oc n sv oc_plan ow ol oc_reach oc_ringBits orc orn ose), (wO6 sv n co sv_keep sv_scaled), (wO0 co n eq co_place), (wO2 n n_nodes n_kind n_pay n_name n_ways n_held n_targets n_weights), (wI g n_kind 0 12 n_fkind), (wI g n_ways 0 12 n_fways), (wI g n_targets 0 36 n_ftargets), (wI g n_weights 0 36 n_fweights), (wI g oc_plan 0 12 opf), (wI g oc_reach 0 12 f_101326)] := hD
        obtain ⟨v_101327, v_101327_e⟩ : ∃ y : Int32, y = x_100048 + Int32.ofInt 1 := ⟨_, rfl⟩
        have h_v_101327 : 1 ≤ (v_101327 : Int32).toInt ∧ (v_101327 : Int32).toInt ≤ 12 := by rw [v_101327_e]; exact tr_add h_100052 (⟨by decide, by decide⟩ : 1 ≤ (Int32.ofInt 1 : Int32).toInt ∧ (Int32.ofInt 1 : Int32).toInt ≤ 1) (by decide) (by decide) (by decide) (by decide)
        have q_v_101327 : v_101327.toInt = x_100048.toInt + 1 := by rw [v_101327_e]; exact tr_addE h_100052 (⟨by decide, by decide⟩ : 1 ≤ (Int32.ofInt 1 : Int32).toInt ∧ (Int32.ofInt 1 : Int32).toInt ≤ 1) (by decide) (by decide)
        refine lv_iinc (v := v_101327) (lv' := [(1, .int v_101327), (0, .ref oc)]) hx hb dX3_findReach_38 hl (k := 0) rfl v_101327_e.symm (by decide) rfl (fun ls hl => ?_)
        refine lv_goto (tgt := 2) hx hb dX3_findReach_41 (by decide) ?_
        exact ih_100050 v_101327 f_101326 H _ ls (tr_w h_v_101327 (by decide) (by decide)) (by omega) (hP.sub [0, 1, 2, 3, 4, 5, 6, 7, 8, 9] rfl) (hD.sub [0, 1, 2, 3, 4, 5, 6, 7, 8, 9] (by decide) rfl) hS (lv_sub hl [0, 1] rfl)
  exact lp_100050 13 0 orf s.heap _ ls (⟨by decide, by decide⟩ : 0 ≤ (0 : Int32).toInt ∧ (0 : Int32).toInt ≤ 12) (by decide) (hP.sub [0, 1, 2, 3, 4, 5, 6, 7, 8, 9] rfl) (hD.sub [0, 1, 2, 3, 4, 5, 6, 7, 8, 9] (by decide) rfl) hS (lv_sub hl [0, 1] rfl)
set_option maxHeartbeats 4000000 in
set_option maxRecDepth 100000 in
theorem c_X3_comesBack (l : Launch) (D : va_G) (g : Nat → ClassId) (oc : Nat) (p0 : Int32) (n : Nat) (sv : Nat) (oc_plan : Nat) (ow : Nat) (ol : Nat) (oc_reach : Nat) (oc_ringBits : Nat) (orc : Int32) (orn : Int32) (ose : Int32) (n_nodes : Int32) (n_kind : Nat) (n_pay : Nat) (n_name : Nat) (n_ways : Nat) (n_held : Nat) (n_targets : Nat) (n_weights : Nat) (n_fkind : Nat → Int32) (orf : Nat → Int32) (h_p0 : 0 ≤ (p0 : Int32).toInt ∧ (p0 : Int32).toInt ≤ 11) (h_orc : 0 ≤ (orc : Int32).toInt ∧ (orc : Int32).toInt ≤ 12) (h_ose : 0 ≤ (ose : Int32).toInt ∧ (ose : Int32).toInt ≤ 1) (h_n_nodes : 0 ≤ (n_nodes : Int32).toInt ∧ (n_nodes : Int32).toInt ≤ 12) (h_n_fkind : ∀ j : Nat, 0 ≤ (n_fkind j).toInt ∧ (n_fkind j).toInt ≤ 3) : Met l yX3_comesBack (.code yX3_comesBack cX3_comesBack 3 (some .boolean) :: wsL_law) ({ frames := 0, cells := 0, slots := 0, locals := 0 }) (va_Pc [.ref oc, .int p0] (fun U => va_P D vwCl [(wO3 oc n sv oc_plan ow ol oc_reach oc_ringBits orc orn ose), (wO2 n n_nodes n_kind n_pay n_name n_ways n_held n_targets n_weights), (wI g n_kind 0 12 n_fkind), (wI g oc_reach 0 12 orf)] U.heap ∧ va_K D vwCl (TY g) U)) (vp_Si (fun r => 0 ≤ (r : Int32).toInt ∧ (r : Int32).toInt ≤ 1)) 0 0 (fun _ => False) := by
  refine Met.ofW (cc := cX3_comesBack) (maxL := 3) (ret := (some .boolean)) (by decide) rfl ?_
  intro p e s m args below meth c s₁ B hml hv
  obtain ⟨ha, hP, hK⟩ := hv
  have hx := B.exec
  have hb := B.bytes
  have hr := B.returns
  have hts0 := atoms_spec (ws := (.code yX3_comesBack cX3_comesBack 3 (some .boolean) :: wsL_law)) B.pre
  have hts : ∀ w ∈ wsL_law, w.before args s = true := fun w h => hts0 w (List.mem_cons_of_mem _ h)
  have hown : s.vm.findClass RX3 = some m.cls := findClass_of_methodNamed B.named
  have hlocks := B.notSynchronized
  have hP : va_P D vwCl [(wO3 oc n sv oc_plan ow ol oc_reach oc_ringBits orc orn ose), (wO2 n n_nodes n_kind n_pay n_name n_ways n_held n_targets n_weights), (wI g n_kind 0 12 n_fkind), (wI g oc_reach 0 12 orf)] s.heap := hP
  refine W.eq (g2 := entryFrame m ([.ref oc, .int p0] : List Value).toArray 3) (by rw [ha]) ?_
  have hl := lv_entry ([.ref oc, .int p0]) (n := 3) (Nat.le_of_ble_eq_true rfl)
  rw [lg_entry_eq]
  generalize (lg_sl ([.ref oc, .int p0]) ++ List.replicate (3 - (lg_sl ([.ref oc, .int p0])).length) Slot.unset).toArray = ls at hl ⊢
  have hl : lv_has ls 3 [(0, .ref oc), (1, .int p0)] := hl
  refine lv_iconst (v := 0) hx hb dX3_comesBack_0 (by decide) ?_
  refine lv_istore_n (lv' := [(2, .int 0), (0, .ref oc), (1, .int p0)]) hx hb dX3_comesBack_1 rfl hl (by decide) rfl (fun ls hl => ?_)
  have lp_101486 : ∀ (n_101486 : Nat) (x_101485 : Int32) (ls : Array Slot), (0 ≤ (x_101485 : Int32).toInt ∧ (x_101485 : Int32).toInt ≤ 12) → (12 - x_101485.toInt < (n_101486 : Int)) → lv_has ls 3 [(2, .int x_101485), (0, .ref oc), (1, .int p0)] → W p l e (headSpec (.code yX3_comesBack cX3_comesBack 3 (some .boolean) :: wsL_law) ({ frames := 0, cells := 0, slots := 0, locals := 0 })).room s m args below meth c s.heap [] 0 0 (MQ below (vp_Si (fun r => 0 ≤ (r : Int32).toInt ∧ (r : Int32).toInt ≤ 1)) args s 0 0 (fun _ => False)) (F0 m 2 ls []) := by
    intro n_101486
    induction n_101486 with
    | zero =>
      intro x_101485 ls h_x_101485 hm_101486 hl
      exfalso; omega
    | succ n_101486 ih_101486 =>
      intro x_101485 ls h_x_101485 hm_101486 hl
      refine lv_iload_n hx hb dX3_comesBack_2 rfl (lv_at hl 0 rfl) ?_
      refine lv_aload_n hx hb dX3_comesBack_3 rfl (lv_at hl 1 rfl) ?_
      refine va_get (D := D) (ci := 3) (v := .ref n) (C := RX3) (T := TX3) (N := 10) hx hb hts inlX3 hown hK hP 0 rfl rfl 0 (by decide) (hts (Cond.fieldLink RX3 31 "ChanceRings$Outcome" "net" "LChanceRings$Net;") qw_636) (fun _ h9 => h9) rfl dX3_comesBack_4 ?_
      refine va_get (D := D) (ci := 2) (v := .int n_nodes) (C := RX2) (T := TX2) (N := 8) hx hb hts inlX2 hown hK hP 1 rfl rfl 0 (by decide) (hts (Cond.fieldLink RX3 63 "ChanceRings$Net" "nodes" "I") qw_637) (fun _ h9 => h9) rfl dX3_comesBack_7 ?_
      refine lv_icmp_ge (tgt := 47) hx hb dX3_comesBack_10 (by decide) (fun c_101487 => ?_) (fun c_101487 => ?_)
      · skip
        refine lv_aload_n hx hb dX3_comesBack_47 rfl (lv_at hl 1 rfl) ?_
        refine va_get (D := D) (ci := 3) (v := .ref n) (C := RX3) (T := TX3) (N := 10) hx hb hts inlX3 hown hK hP 0 rfl rfl 0 (by decide) (hts (Cond.fieldLink RX3 31 "ChanceRings$Outcome" "net" "LChanceRings$Net;") qw_636) (fun _ h9 => h9) rfl dX3_comesBack_48 ?_
        refine va_get (D := D) (ci := 2) (v := .ref n_kind) (C := RX2) (T := TX2) (N := 8) hx hb hts inlX2 hown hK hP 1 rfl rfl 1 (by decide) (hts (Cond.fieldLink RX3 96 "ChanceRings$Net" "kind" "[I") qw_643) (fun _ h9 => h9) rfl dX3_comesBack_51 ?_
        refine lv_iload_n hx hb dX3_comesBack_54 rfl (lv_at hl 2 rfl) ?_
        refine va_iald hx hb hK hP 2 0 rfl rfl (tr_in h_p0 (by decide) (by decide)) dX3_comesBack_55 ?_
        refine lv_topi (fun v_101490 v_101490_e => ?_)
        have h_v_101490 : 0 ≤ (v_101490 : Int32).toInt ∧ (v_101490 : Int32).toInt ≤ 3 := by rw [v_101490_e]; exact h_n_fkind _
        refine lv_if_eq (tgt := 63) hx hb dX3_comesBack_56 (by decide) (fun c_101491 => ?_) (fun c_101491 => ?_)
        · skip
          have c_101491_i : (v_101490 : Int32).toInt = (0 : Int32).toInt := congrArg Int32.toInt c_101491
          have h_101492 : 0 ≤ (v_101490 : Int32).toInt ∧ (v_101490 : Int32).toInt ≤ 0 := nr_eq_l h_v_101490 (⟨by decide, by decide⟩ : 0 ≤ (0 : Int32).toInt ∧ (0 : Int32).toInt ≤ 0) c_101491_i (by decide) (by decide)
          refine lv_iconst (v := 0) hx hb dX3_comesBack_63 (by decide) ?_
          exact W.zret (v := 0) hx hb hr (by decide) (fun t ht hW => ⟨0, rfl, (⟨by decide, by decide⟩ : 0 ≤ (0 : Int32).toInt ∧ (0 : Int32).toInt ≤ 1), ht⟩) (fun _ h => nomatch h) dX3_comesBack_64
        · skip
          have c_101491_i : ¬ (v_101490 : Int32).toInt = (0 : Int32).toInt := (fun q => c_101491 (Int32.toInt_inj.mp q))
          have h_101493 : 1 ≤ (v_101490 : Int32).toInt ∧ (v_101490 : Int32).toInt ≤ 3 := nr_ne_l h_v_101490 (⟨by decide, by decide⟩ : 0 ≤ (0 : Int32).toInt ∧ (0 : Int32).toInt ≤ 0) c_101491_i (by decide) (by decide)
          refine lv_iconst (v := 1) hx hb dX3_comesBack_59 (by decide) ?_
          refine lv_goto (tgt := 64) hx hb dX3_comesBack_60 (by decide) ?_
          exact W.zret (v := 1) hx hb hr (by decide) (fun t ht hW => ⟨1, rfl, (⟨by decide, by decide⟩ : 0 ≤ (1 : Int32).toInt ∧ (1 : Int32).toInt ≤ 1), ht⟩) (fun _ h => nomatch h) dX3_comesBack_64
      · skip
        have c_101487_i := Int32.lt_iff_toInt_lt.mp (Int32.not_le.mp c_101487)
        have h_101488 : 0 ≤ (x_101485 : Int32).toInt ∧ (x_101485 : Int32).toInt ≤ 11 := nr_lt_l h_x_101485 h_n_nodes c_101487_i (by decide) (by decide)
        have h_101489 : 1 ≤ (n_nodes : Int32).toInt ∧ (n_nodes : Int32).toInt ≤ 12 := nr_lt_r h_x_101485 h_n_nodes c_101487_i (by decide) (by decide)
        refine lv_aload_n hx hb dX3_comesBack_13 rfl (lv_at hl 1 rfl) ?_
        refine va_get (D := D) (ci := 3) (v := .ref oc_reach) (C := RX3) (T := TX3) (N := 10) hx hb hts inlX3 hown hK hP 0 rfl rfl 5 (by decide) (hts (Cond.fieldLink RX3 25 "ChanceRings$Outcome" "reach" "[I") qw_638) (fun _ h9 => h9) rfl dX3_comesBack_14 ?_
        refine lv_iload_n hx hb dX3_comesBack_17 rfl (lv_at hl 2 rfl) ?_
        refine va_iald hx hb hK hP 3 0 rfl rfl (tr_in h_p0 (by decide) (by decide)) dX3_comesBack_18 ?_
        refine lv_topi (fun v_101494 v_101494_e => ?_)
        refine lv_iload_n hx hb dX3_comesBack_19 rfl (lv_at hl 0 rfl) ?_
        refine lv_ishr hx hb dX3_comesBack_20 ?_
        refine lv_topi (fun v_101495 v_101495_e => ?_)
        refine lv_iconst (v := 1) hx hb dX3_comesBack_21 (by decide) ?_
        refine lv_iand hx hb dX3_comesBack_22 ?_
        refine lv_topi (fun v_101496 v_101496_e => ?_)
        refine lv_if_eq (tgt := 41) hx hb dX3_comesBack_23 (by decide) (fun c_101497 => ?_) (fun c_101497 => ?_)
        · skip
          have h_101498 : 0 ≤ (v_101496 : Int32).toInt ∧ (v_101496 : Int32).toInt ≤ 0 := by rw [c_101497]; exact ⟨by decide, by decide⟩
          obtain ⟨v_101499, v_101499_e⟩ : ∃ y : Int32, y = x_101485 + Int32.ofInt 1 := ⟨_, rfl⟩
          have h_v_101499 : 1 ≤ (v_101499 : Int32).toInt ∧ (v_101499 : Int32).toInt ≤ 12 := by rw [v_101499_e]; exact tr_add h_101488 (⟨by decide, by decide⟩ : 1 ≤ (Int32.ofInt 1 : Int32).toInt ∧ (Int32.ofInt 1 : Int32).toInt ≤ 1) (by decide) (by decide) (by decide) (by decide)
          have q_v_101499 : v_101499.toInt = x_101485.toInt + 1 := by rw [v_101499_e]; exact tr_addE h_101488 (⟨by decide, by decide⟩ : 1 ≤ (Int32.ofInt 1 : Int32).toInt ∧ (Int32.ofInt 1 : Int32).toInt ≤ 1) (by decide) (by decide)
          refine lv_iinc (v := v_101499) (lv' := [(2, .int v_101499), (0, .ref oc), (1, .int p0)]) hx hb dX3_comesBack_41 hl (k := 0) rfl v_101499_e.symm (by decide) rfl (fun ls hl => ?_)
          refine lv_goto (tgt := 2) hx hb dX3_comesBack_44 (by decide) ?_
          exact ih_101486 v_101499 ls (tr_w h_v_101499 (by decide) (by decide)) (by (first | (clear h_p0 h_orc h_ose h_101498; omega) | omega)) (lv_sub hl [0, 1, 2] rfl)
        · skip
          refine lv_aload_n hx hb dX3_comesBack_26 rfl (lv_at hl 1 rfl) ?_
          refine va_get (D := D) (ci := 3) (v := .ref oc_reach) (C := RX3) (T := TX3) (N := 10) hx hb hts inlX3 hown hK hP 0 rfl rfl 5 (by decide) (hts (Cond.fieldLink RX3 25 "ChanceRings$Outcome" "reach" "[I") qw_638) (fun _ h9 => h9) rfl dX3_comesBack_27 ?_
          refine lv_iload_n hx hb dX3_comesBack_30 rfl (lv_at hl 0 rfl) ?_
          refine va_iald hx hb hK hP 3 0 rfl rfl (tr_in h_101488 (by decide) (by decide)) dX3_comesBack_31 ?_
          refine lv_topi (fun v_101500 v_101500_e => ?_)
          refine lv_iload_n hx hb dX3_comesBack_32 rfl (lv_at hl 2 rfl) ?_
          refine lv_ishr hx hb dX3_comesBack_33 ?_
          refine lv_topi (fun v_101501 v_101501_e => ?_)
          refine lv_iconst (v := 1) hx hb dX3_comesBack_34 (by decide) ?_
          refine lv_iand hx hb dX3_comesBack_35 ?_
          refine lv_topi (fun v_101502 v_101502_e => ?_)
          refine lv_if_ne (tgt := 41) hx hb dX3_comesBack_36 (by decide) (fun c_101503 => ?_) (fun c_101503 => ?_)
          · skip
            obtain ⟨v_101505, v_101505_e⟩ : ∃ y : Int32, y = x_101485 + Int32.ofInt 1 := ⟨_, rfl⟩
            have h_v_101505 : 1 ≤ (v_101505 : Int32).toInt ∧ (v_101505 : Int32).toInt ≤ 12 := by rw [v_101505_e]; exact tr_add h_101488 (⟨by decide, by decide⟩ : 1 ≤ (Int32.ofInt 1 : Int32).toInt ∧ (Int32.ofInt 1 : Int32).toInt ≤ 1) (by decide) (by decide) (by decide) (by decide)
            have q_v_101505 : v_101505.toInt = x_101485.toInt + 1 := by rw [v_101505_e]; exact tr_addE h_101488 (⟨by decide, by decide⟩ : 1 ≤ (Int32.ofInt 1 : Int32).toInt ∧ (Int32.ofInt 1 : Int32).toInt ≤ 1) (by decide) (by decide)
            refine lv_iinc (v := v_101505) (lv' := [(2, .int v_101505), (0, .ref oc), (1, .int p0)]) hx hb dX3_comesBack_41 hl (k := 0) rfl v_101505_e.symm (by decide) rfl (fun ls hl => ?_)
            refine lv_goto (tgt := 2) hx hb dX3_comesBack_44 (by decide) ?_
            exact ih_101486 v_101505 ls (tr_w h_v_101505 (by decide) (by decide)) (by omega) (lv_sub hl [0, 1, 2] rfl)
          · skip
            have h_101504 : 0 ≤ (v_101502 : Int32).toInt ∧ (v_101502 : Int32).toInt ≤ 0 := by rw [c_101503]; exact ⟨by decide, by decide⟩
            refine lv_iconst (v := 0) hx hb dX3_comesBack_39 (by decide) ?_
            exact W.zret (v := 0) hx hb hr (by decide) (fun t ht hW => ⟨0, rfl, (⟨by decide, by decide⟩ : 0 ≤ (0 : Int32).toInt ∧ (0 : Int32).toInt ≤ 1), ht⟩) (fun _ h => nomatch h) dX3_comesBack_40
  exact lp_101486 13 0 ls (⟨by decide, by decide⟩ : 0 ≤ (0 : Int32).toInt ∧ (0 : Int32).toInt ≤ 12) (by decide) (lv_sub hl [0, 1, 2] rfl)
set_option maxHeartbeats 4000000 in
set_option maxRecDepth 100000 in
theorem c_X3_comesToRing (l : Launch) (D : va_G) (g : Nat → ClassId) (oc : Nat) (p0 : Int32) (n : Nat) (sv : Nat) (oc_plan : Nat) (ow : Nat) (ol : Nat) (oc_reach : Nat) (oc_ringBits : Nat) (orc : Int32) (orn : Int32) (ose : Int32) (orf : Nat → Int32) (h_p0 : 0 ≤ (p0 : Int32).toInt ∧ (p0 : Int32).toInt ≤ 11) (h_orc : 0 ≤ (orc : Int32).toInt ∧ (orc : Int32).toInt ≤ 12) (h_ose : 0 ≤ (ose : Int32).toInt ∧ (ose : Int32).toInt ≤ 1) : Met l yX3_comesToRing (.code yX3_comesToRing cX3_comesToRing 2 (some .boolean) :: wsL_law) ({ frames := 0, cells := 0, slots := 0, locals := 0 }) (va_Pc [.ref oc, .int p0] (fun U => va_P D vwCl [(wO3 oc n sv oc_plan ow ol oc_reach oc_ringBits orc orn ose), (wI g oc_reach 0 12 orf)] U.heap ∧ va_K D vwCl (TY g) U)) (vp_Si (fun r => 0 ≤ (r : Int32).toInt ∧ (r : Int32).toInt ≤ 1)) 0 0 (fun _ => False) := by
  refine Met.ofW (cc := cX3_comesToRing) (maxL := 2) (ret := (some .boolean)) (by decide) rfl ?_
  intro p e s m args below meth c s₁ B hml hv
  obtain ⟨ha, hP, hK⟩ := hv
  have hx := B.exec
  have hb := B.bytes
  have hr := B.returns
  have hts0 := atoms_spec (ws := (.code yX3_comesToRing cX3_comesToRing 2 (some .boolean) :: wsL_law)) B.pre
  have hts : ∀ w ∈ wsL_law, w.before args s = true := fun w h => hts0 w (List.mem_cons_of_mem _ h)
  have hown : s.vm.findClass RX3 = some m.cls := findClass_of_methodNamed B.named
  have hlocks := B.notSynchronized
  have hP : va_P D vwCl [(wO3 oc n sv oc_plan ow ol oc_reach oc_ringBits orc orn ose), (wI g oc_reach 0 12 orf)] s.heap := hP
  refine W.eq (g2 := entryFrame m ([.ref oc, .int p0] : List Value).toArray 2) (by rw [ha]) ?_
  have hl := lv_entry ([.ref oc, .int p0]) (n := 2) (Nat.le_of_ble_eq_true rfl)
  rw [lg_entry_eq]
  generalize (lg_sl ([.ref oc, .int p0]) ++ List.replicate (2 - (lg_sl ([.ref oc, .int p0])).length) Slot.unset).toArray = ls at hl ⊢
  have hl : lv_has ls 2 [(0, .ref oc), (1, .int p0)] := hl
  refine lv_aload_n hx hb dX3_comesToRing_0 rfl (lv_at hl 0 rfl) ?_
  refine va_get (D := D) (ci := 3) (v := .ref oc_reach) (C := RX3) (T := TX3) (N := 10) hx hb hts inlX3 hown hK hP 0 rfl rfl 5 (by decide) (hts (Cond.fieldLink RX3 25 "ChanceRings$Outcome" "reach" "[I") qw_638) (fun _ h9 => h9) rfl dX3_comesToRing_1 ?_
  refine lv_iload_n hx hb dX3_comesToRing_4 rfl (lv_at hl 1 rfl) ?_
  refine va_iald hx hb hK hP 1 0 rfl rfl (tr_in h_p0 (by decide) (by decide)) dX3_comesToRing_5 ?_
  refine lv_topi (fun v_101506 v_101506_e => ?_)
  refine lv_aload_n hx hb dX3_comesToRing_6 rfl (lv_at hl 0 rfl) ?_
  refine va_get (D := D) (ci := 3) (v := .int orn) (C := RX3) (T := TX3) (N := 10) hx hb hts inlX3 hown hK hP 0 rfl rfl 8 (by decide) (hts (Cond.fieldLink RX3 90 "ChanceRings$Outcome" "ringNodes" "I") qw_644) (fun _ h9 => h9) rfl dX3_comesToRing_7 ?_
  refine lv_iand hx hb dX3_comesToRing_10 ?_
  refine lv_topi (fun v_101507 v_101507_e => ?_)
  refine lv_if_eq (tgt := 18) hx hb dX3_comesToRing_11 (by decide) (fun c_101508 => ?_) (fun c_101508 => ?_)
  · skip
    have h_101509 : 0 ≤ (v_101507 : Int32).toInt ∧ (v_101507 : Int32).toInt ≤ 0 := by rw [c_101508]; exact ⟨by decide, by decide⟩
    refine lv_iconst (v := 0) hx hb dX3_comesToRing_18 (by decide) ?_
    exact W.zret (v := 0) hx hb hr (by decide) (fun t ht hW => ⟨0, rfl, (⟨by decide, by decide⟩ : 0 ≤ (0 : Int32).toInt ∧ (0 : Int32).toInt ≤ 1), ht⟩) (fun _ h => nomatch h) dX3_comesToRing_19
  · skip
    refine lv_iconst (v := 1) hx hb dX3_comesToRing_14 (by decide) ?_
    refine lv_goto (tgt := 19) hx hb dX3_comesToRing_15 (by decide) ?_
    exact W.zret (v := 1) hx hb hr (by decide) (fun t ht hW => ⟨1, rfl, (⟨by decide, by decide⟩ : 0 ≤ (1 : Int32).toInt ∧ (1 : Int32).toInt ≤ 1), ht⟩) (fun _ h => nomatch h) dX3_comesToRing_19
set_option maxHeartbeats 4000000 in
set_option maxRecDepth 100000 in
theorem c_X3_findRings (l : Launch) (D : va_G) (g : Nat → ClassId) (sz : Nat) (oc : Nat) (n : Nat) (sv : Nat) (oc_plan : Nat) (ow : Nat) (ol : Nat) (oc_reach : Nat) (oc_ringBits : Nat) (orc : Int32) (orn : Int32) (ose : Int32) (n_nodes : Int32) (n_kind : Nat) (n_pay : Nat) (n_name : Nat) (n_ways : Nat) (n_held : Nat) (n_targets : Nat) (n_weights : Nat) (n_fkind : Nat → Int32) (orf : Nat → Int32) (obf : Nat → Int32) (h_orc : 0 ≤ (orc : Int32).toInt ∧ (orc : Int32).toInt ≤ 12) (h_ose : 0 ≤ (ose : Int32).toInt ∧ (ose : Int32).toInt ≤ 1) (h_n_nodes : 0 ≤ (n_nodes : Int32).toInt ∧ (n_nodes : Int32).toInt ≤ 12) (h_n_fkind : ∀ j : Nat, 0 ≤ (n_fkind j).toInt ∧ (n_fkind j).toInt ≤ 3) : Met l yX3_findRings (.code yX3_findRings cX3_findRings 2 none :: wsL_law) ({ frames := 1, cells := 0, slots := 0, locals := 22 }) (va_Pc [.ref oc] (fun U => U.heap.size = sz ∧ va_P D vwCl [(wO3 oc n sv oc_plan ow ol oc_reach oc_ringBits orc orn ose), (wO2 n n_nodes n_kind n_pay n_name n_ways n_held n_targets n_weights), (wI g n_kind 0 12 n_fkind), (wI g oc_reach 0 12 orf), (wI g oc_ringBits 0 12 obf)] U.heap ∧ va_K D vwCl (TY g) U ∧ va_D (fun _ => True) [(wO3 oc n sv oc_plan ow ol oc_reach oc_ringBits orc orn ose), (wO2 n n_nodes n_kind n_pay n_name n_ways n_held n_targets n_weights), (wI g n_kind 0 12 n_fkind), (wI g oc_reach 0 12 orf), (wI g oc_ringBits 0 12 obf)])) (va_Qv (fun (_ : Unit) => True) (fun _ t => ∃ xrc : Int32, ∃ xrn : Int32, ∃ xbf : Nat → Int32, (0 ≤ (xrc : Int32).toInt ∧ (xrc : Int32).toInt ≤ 12) ∧ va_P D vwCl [(wO3 oc n sv oc_plan ow ol oc_reach oc_ringBits xrc xrn ose), (wO2 n n_nodes n_kind n_pay n_name n_ways n_held n_targets n_weights), (wI g n_kind 0 12 n_fkind), (wI g oc_reach 0 12 orf), (wI g oc_ringBits 0 12 xbf)] t.heap ∧ va_D (va_A [(wO3 oc n sv oc_plan ow ol oc_reach oc_ringBits orc orn ose), (wO2 n n_nodes n_kind n_pay n_name n_ways n_held n_targets n_weights), (wI g n_kind 0 12 n_fkind), (wI g oc_reach 0 12 orf), (wI g oc_ringBits 0 12 obf)] sz) [(wO3 oc n sv oc_plan ow ol oc_reach oc_ringBits xrc xrn ose), (wO2 n n_nodes n_kind n_pay n_name n_ways n_held n_targets n_weights), (wI g n_kind 0 12 n_fkind), (wI g oc_reach 0 12 orf), (wI g oc_ringBits 0 12 xbf)]) (va_A [(wO3 oc n sv oc_plan ow ol oc_reach oc_ringBits orc orn ose), (wO2 n n_nodes n_kind n_pay n_name n_ways n_held n_targets n_weights), (wI g n_kind 0 12 n_fkind), (wI g oc_reach 0 12 orf), (wI g oc_ringBits 0 12 obf)] sz)) 0 0 (va_A [(wO3 oc n sv oc_plan ow ol oc_reach oc_ringBits orc orn ose), (wO2 n n_nodes n_kind n_pay n_name n_ways n_held n_targets n_weights), (wI g n_kind 0 12 n_fkind), (wI g oc_reach 0 12 orf), (wI g oc_ringBits 0 12 obf)] sz) := by
  refine Met.ofW (cc := cX3_findRings) (maxL := 2) (ret := none) (by decide) rfl ?_
  intro p e s m args below meth c s₁ B hml hv
  obtain ⟨ha, hsz, hP, hK, hD0⟩ := hv
  have hx := B.exec
  have hb := B.bytes
  have hr := B.returns
  have hts0 := atoms_spec (ws := (.code yX3_findRings cX3_findRings 2 none :: wsL_law)) B.pre
  have hts : ∀ w ∈ wsL_law, w.before args s = true := fun w h => hts0 w (List.mem_cons_of_mem _ h)
  have hown : s.vm.findClass RX3 = some m.cls := findClass_of_methodNamed B.named
  have hlocks := B.notSynchronized
  subst hsz
  have hD := hD0.self (sz := s.heap.size)
  generalize hAe : va_A [(wO3 oc n sv oc_plan ow ol oc_reach oc_ringBits orc orn ose), (wO2 n n_nodes n_kind n_pay n_name n_ways n_held n_targets n_weights), (wI g n_kind 0 12 n_fkind), (wI g oc_reach 0 12 orf), (wI g oc_ringBits 0 12 obf)] s.heap.size = A at hD ⊢
  have hA : ∀ q : Nat, s.heap.size ≤ q → A q := fun q h => by rw [← hAe]; exact Or.inr h
  have hS : va_S A s.heap s.heap [] := va_S.rf
  have hP : va_P D vwCl [(wO3 oc n sv oc_plan ow ol oc_reach oc_ringBits orc orn ose), (wO2 n n_nodes n_kind n_pay n_name n_ways n_held n_targets n_weights), (wI g n_kind 0 12 n_fkind), (wI g oc_reach 0 12 orf), (wI g oc_ringBits 0 12 obf)] s.heap := hP
  refine W.eq (g2 := entryFrame m ([.ref oc] : List Value).toArray 2) (by rw [ha]) ?_
  have hl := lv_entry ([.ref oc]) (n := 2) (Nat.le_of_ble_eq_true rfl)
  rw [lg_entry_eq]
  generalize (lg_sl ([.ref oc]) ++ List.replicate (2 - (lg_sl ([.ref oc])).length) Slot.unset).toArray = ls at hl ⊢
  have hl : lv_has ls 2 [(0, .ref oc)] := hl
  refine lv_aload_n hx hb dX3_findRings_0 rfl (lv_at hl 0 rfl) ?_
  refine lv_iconst (v := 0) hx hb dX3_findRings_1 (by decide) ?_
  refine va_put (D := D) (ci := 3) (v := .int 0) (ty := .int) (C := RX3) (T := TX3) (N := 10) hx hb hts inlX3 tyX3 tyX3_ok nmX3 hown hK hP hD hS 0 rfl rfl 7 (by decide) (hts (Cond.fieldLink RX3 87 "ChanceRings$Outcome" "ringCount" "I") qw_645) (fun _ h9 => h9) rfl (by decide +kernel) rfl rfl (Nat.le_of_ble_eq_true rfl) dX3_findRings_2 (fun H locs hP hD hS => ?_)
  have hP : va_P D vwCl [(wO3 oc n sv oc_plan ow ol oc_reach oc_ringBits 0 orn ose), (wO2 n n_nodes n_kind n_pay n_name n_ways n_held n_targets n_weights), (wI g n_kind 0 12 n_fkind), (wI g oc_reach 0 12 orf), (wI g oc_ringBits 0 12 obf)] H := hP
  have hD : va_D A [(wO3 oc n sv oc_plan ow ol oc_reach oc_ringBits 0 orn ose), (wO2 n n_nodes n_kind n_pay n_name n_ways n_held n_targets n_weights), (wI g n_kind 0 12 n_fkind), (wI g oc_reach 0 12 orf), (wI g oc_ringBits 0 12 obf)] := hD
  refine lv_aload_n hx hb dX3_findRings_5 rfl (lv_at hl 0 rfl) ?_
  refine lv_iconst (v := 0) hx hb dX3_findRings_6 (by decide) ?_
  refine va_put (D := D) (ci := 3) (v := .int 0) (ty := .int) (C := RX3) (T := TX3) (N := 10) hx hb hts inlX3 tyX3 tyX3_ok nmX3 hown hK hP hD hS 0 rfl rfl 8 (by decide) (hts (Cond.fieldLink RX3 90 "ChanceRings$Outcome" "ringNodes" "I") qw_644) (fun _ h9 => h9) rfl (by decide +kernel) rfl rfl (Nat.le_of_ble_eq_true rfl) dX3_findRings_7 (fun H locs hP hD hS => ?_)
  have hP : va_P D vwCl [(wO3 oc n sv oc_plan ow ol oc_reach oc_ringBits 0 0 ose), (wO2 n n_nodes n_kind n_pay n_name n_ways n_held n_targets n_weights), (wI g n_kind 0 12 n_fkind), (wI g oc_reach 0 12 orf), (wI g oc_ringBits 0 12 obf)] H := hP
  have hD : va_D A [(wO3 oc n sv oc_plan ow ol oc_reach oc_ringBits 0 0 ose), (wO2 n n_nodes n_kind n_pay n_name n_ways n_held n_targets n_weights), (wI g n_kind 0 12 n_fkind), (wI g oc_reach 0 12 orf), (wI g oc_ringBits 0 12 obf)] := hD
  refine lv_iconst (v := 0) hx hb dX3_findRings_10 (by decide) ?_
  refine lv_istore_n (lv' := [(1, .int 0), (0, .ref oc)]) hx hb dX3_findRings_11 rfl hl (by decide) rfl (fun ls hl => ?_)
  have lp_101696 : ∀ (n_101696 : Nat) (x_101692 : Int32) (x_101693 : Int32) (x_101694 : Int32) (f_101695 : Nat → Int32) (H : Heap) (locs : List Loc) (ls : Array Slot), (0 ≤ (x_101692 : Int32).toInt ∧ (x_101692 : Int32).toInt ≤ 12) → (0 ≤ (x_101693 : Int32).toInt ∧ (x_101693 : Int32).toInt ≤ 12) → (x_101692.toInt ≤ (x_101693 : Int32).toInt) → (12 - x_101693.toInt < (n_101696 : Int)) → va_P D vwCl [(wO3 oc n sv oc_plan ow ol oc_reach oc_ringBits x_101692 x_101694 ose), (wO2 n n_nodes n_kind n_pay n_name n_ways n_held n_targets n_weights), (wI g n_kind 0 12 n_fkind), (wI g oc_reach 0 12 orf), (wI g oc_ringBits 0 12 f_101695)] H → va_D A [(wO3 oc n sv oc_plan ow ol oc_reach oc_ringBits x_101692 x_101694 ose), (wO2 n n_nodes n_kind n_pay n_name n_ways n_held n_targets n_weights), (wI g n_kind 0 12 n_fkind), (wI g oc_reach 0 12 orf), (wI g oc_ringBits 0 12 f_101695)] → va_S A s.heap H locs → lv_has ls 2 [(1, .int x_101693), (0, .ref oc)] → W p l e (headSpec (.code yX3_findRings cX3_findRings 2 none :: wsL_law) ({ frames := 1, cells := 0, slots := 0, locals := 22 })).room s m args below meth c H locs 0 0 (MQ below (va_Qv (fun (_ : Unit) => True) (fun _ t => ∃ xrc : Int32, ∃ xrn : Int32, ∃ xbf : Nat → Int32, (0 ≤ (xrc : Int32).toInt ∧ (xrc : Int32).toInt ≤ 12) ∧ va_P D vwCl [(wO3 oc n sv oc_plan ow ol oc_reach oc_ringBits xrc xrn ose), (wO2 n n_nodes n_kind n_pay n_name n_ways n_held n_targets n_weights), (wI g n_kind 0 12 n_fkind), (wI g oc_reach 0 12 orf), (wI g oc_ringBits 0 12 xbf)] t.heap ∧ va_D A [(wO3 oc n sv oc_plan ow ol oc_reach oc_ringBits xrc xrn ose), (wO2 n n_nodes n_kind n_pay n_name n_ways n_held n_targets n_weights), (wI g n_kind 0 12 n_fkind), (wI g oc_reach 0 12 orf), (wI g oc_ringBits 0 12 xbf)]) A) args s 0 0 A) (F0 m 12 ls []) := by
    intro n_101696
    induction n_101696 with
    | zero =>
      intro x_101692 x_101693 x_101694 f_101695 H locs ls h_x_101692 h_x_101693 hr101696_0 hm_101696 hP hD hS hl
      exfalso; omega
    | succ n_101696 ih_101696 =>
      intro x_101692 x_101693 x_101694 f_101695 H locs ls h_x_101692 h_x_101693 hr101696_0 hm_101696 hP hD hS hl
      refine lv_iload_n hx hb dX3_findRings_12 rfl (lv_at hl 0 rfl) ?_
      refine lv_aload_n hx hb dX3_findRings_13 rfl (lv_at hl 1 rfl) ?_
      refine va_get (D := D) (ci := 3) (v := .ref n) (C := RX3) (T := TX3) (N := 10) hx hb hts inlX3 hown hK hP 0 rfl rfl 0 (by decide) (hts (Cond.fieldLink RX3 31 "ChanceRings$Outcome" "net" "LChanceRings$Net;") qw_636) (fun _ h9 => h9) rfl dX3_findRings_14 ?_
      refine va_get (D := D) (ci := 2) (v := .int n_nodes) (C := RX2) (T := TX2) (N := 8) hx hb hts inlX2 hown hK hP 1 rfl rfl 0 (by decide) (hts (Cond.fieldLink RX3 63 "ChanceRings$Net" "nodes" "I") qw_637) (fun _ h9 => h9) rfl dX3_findRings_17 ?_
      refine lv_icmp_ge (tgt := 88) hx hb dX3_findRings_20 (by decide) (fun c_101697 => ?_) (fun c_101697 => ?_)
      · skip
        have hP9 := hP.sub (ws' := [(wO3 oc n sv oc_plan ow ol oc_reach oc_ringBits x_101692 x_101694 ose), (wO2 n n_nodes n_kind n_pay n_name n_ways n_held n_targets n_weights), (wI g n_kind 0 12 n_fkind), (wI g oc_reach 0 12 orf), (wI g oc_ringBits 0 12 f_101695)]) [0, 1, 2, 3, 4] rfl
        have hD9 := hD.sub (ws' := [(wO3 oc n sv oc_plan ow ol oc_reach oc_ringBits x_101692 x_101694 ose), (wO2 n n_nodes n_kind n_pay n_name n_ways n_held n_targets n_weights), (wI g n_kind 0 12 n_fkind), (wI g oc_reach 0 12 orf), (wI g oc_ringBits 0 12 f_101695)]) [0, 1, 2, 3, 4] (by decide) rfl
        exact W.vret hx hb hr (fun t ht hW => ⟨⟨(), rfl, trivial, x_101692, x_101694, f_101695, (tr_w h_x_101692 (by decide) (by decide)), by rw [ht]; exact hP9, hD9⟩, hS.F ht⟩) hS.2.2 dX3_findRings_88
      · skip
        have c_101697_i := Int32.lt_iff_toInt_lt.mp (Int32.not_le.mp c_101697)
        have h_101698 : 0 ≤ (x_101693 : Int32).toInt ∧ (x_101693 : Int32).toInt ≤ 11 := nr_lt_l h_x_101693 h_n_nodes c_101697_i (by decide) (by decide)
        have h_101699 : 1 ≤ (n_nodes : Int32).toInt ∧ (n_nodes : Int32).toInt ≤ 12 := nr_lt_r h_x_101693 h_n_nodes c_101697_i (by decide) (by decide)
        refine lv_aload_n hx hb dX3_findRings_23 rfl (lv_at hl 1 rfl) ?_
        refine va_get (D := D) (ci := 3) (v := .int x_101694) (C := RX3) (T := TX3) (N := 10) hx hb hts inlX3 hown hK hP 0 rfl rfl 8 (by decide) (hts (Cond.fieldLink RX3 90 "ChanceRings$Outcome" "ringNodes" "I") qw_644) (fun _ h9 => h9) rfl dX3_findRings_24 ?_
        refine lv_iload_n hx hb dX3_findRings_27 rfl (lv_at hl 0 rfl) ?_
        refine lv_ishr hx hb dX3_findRings_28 ?_
        refine lv_topi (fun v_101700 v_101700_e => ?_)
        have h_101701 : 0 ≤ (x_101692 : Int32).toInt ∧ (x_101692 : Int32).toInt ≤ 11 := by (first | (clear h_orc h_ose h_n_nodes h_x_101693 c_101697_i h_101698 h_101699; omega) | omega)
        refine lv_iconst (v := 1) hx hb dX3_findRings_29 (by decide) ?_
        refine lv_iand hx hb dX3_findRings_30 ?_
        refine lv_topi (fun v_101702 v_101702_e => ?_)
        refine lv_if_ne (tgt := 82) hx hb dX3_findRings_31 (by decide) (fun c_101703 => ?_) (fun c_101703 => ?_)
        · skip
          obtain ⟨v_101705, v_101705_e⟩ : ∃ y : Int32, y = x_101693 + Int32.ofInt 1 := ⟨_, rfl⟩
          have h_v_101705 : 1 ≤ (v_101705 : Int32).toInt ∧ (v_101705 : Int32).toInt ≤ 12 := by rw [v_101705_e]; exact tr_add h_101698 (⟨by decide, by decide⟩ : 1 ≤ (Int32.ofInt 1 : Int32).toInt ∧ (Int32.ofInt 1 : Int32).toInt ≤ 1) (by decide) (by decide) (by decide) (by decide)
          have q_v_101705 : v_101705.toInt = x_101693.toInt + 1 := by rw [v_101705_e]; exact tr_addE h_101698 (⟨by decide, by decide⟩ : 1 ≤ (Int32.ofInt 1 : Int32).toInt ∧ (Int32.ofInt 1 : Int32).toInt ≤ 1) (by decide) (by decide)
          refine lv_iinc (v := v_101705) (lv' := [(1, .int v_101705), (0, .ref oc)]) hx hb dX3_findRings_82 hl (k := 0) rfl v_101705_e.symm (by decide) rfl (fun ls hl => ?_)
          refine lv_goto (tgt := 12) hx hb dX3_findRings_85 (by decide) ?_
          exact ih_101696 x_101692 v_101705 x_101694 f_101695 H _ ls (tr_w h_101701 (by decide) (by decide)) (tr_w h_v_101705 (by decide) (by decide)) (by omega) (by omega) (hP.sub [0, 1, 2, 3, 4] rfl) (hD.sub [0, 1, 2, 3, 4] (by decide) rfl) hS (lv_sub hl [0, 1] rfl)
        · skip
          have h_101704 : 0 ≤ (v_101702 : Int32).toInt ∧ (v_101702 : Int32).toInt ≤ 0 := by rw [c_101703]; exact ⟨by decide, by decide⟩
          refine lv_aload_n hx hb dX3_findRings_34 rfl (lv_at hl 1 rfl) ?_
          refine lv_iload_n hx hb dX3_findRings_35 rfl (lv_at hl 0 rfl) ?_
          have hPc := hP.sub (ws' := [(wO3 oc n sv oc_plan ow ol oc_reach oc_ringBits x_101692 x_101694 ose), (wO2 n n_nodes n_kind n_pay n_name n_ways n_held n_targets n_weights), (wI g n_kind 0 12 n_fkind), (wI g oc_reach 0 12 orf)]) [0, 1, 2, 3] rfl
          refine vp_callSi (va_Run.run (va_runV (As := [.int x_101693]) (rest := []) ⟨hx, hb, hml, hown, hts⟩ (c_X3_comesBack l D g oc x_101693 n sv oc_plan ow ol oc_reach oc_ringBits x_101692 x_101694 ose n_nodes n_kind n_pay n_name n_ways n_held n_targets n_weights n_fkind orf (tr_w h_101698 (by decide) (by decide)) (tr_w h_101701 (by decide) (by decide)) (tr_w h_ose (by decide) (by decide)) (tr_w h_101699 (by decide) (by decide)) (tr_wa h_n_fkind (by decide) (by decide))) (cwV 1 hts (tz_gV qw_646 qw_647 qw_648 qw_649 qw_650) rfl rfl rfl (by decide +kernel) ⟨Nat.le_of_ble_eq_true rfl, Nat.le_of_ble_eq_true rfl⟩) ⟨tz_blS, va_recv hK hPc (ci := 3) (q0 := 0) rfl rfl, tz_preS hPc hK⟩ rfl rfl hl.1 rfl (lv_room (Nat.le_of_ble_eq_true rfl)) dX3_findRings_36 ⟨Nat.le_of_ble_eq_true rfl, Nat.le_of_ble_eq_true rfl⟩)) (fun r_101706 hw => ?_)
          have hw_101707 : 0 ≤ (r_101706 : Int32).toInt ∧ (r_101706 : Int32).toInt ≤ 1 := hw
          refine lv_if_eq (tgt := 82) hx hb dX3_findRings_39 (by decide) (fun c_101708 => ?_) (fun c_101708 => ?_)
          · skip
            have c_101708_i : (r_101706 : Int32).toInt = (0 : Int32).toInt := congrArg Int32.toInt c_101708
            have h_101709 : 0 ≤ (r_101706 : Int32).toInt ∧ (r_101706 : Int32).toInt ≤ 0 := nr_eq_l hw_101707 (⟨by decide, by decide⟩ : 0 ≤ (0 : Int32).toInt ∧ (0 : Int32).toInt ≤ 0) c_101708_i (by decide) (by decide)
            obtain ⟨v_101711, v_101711_e⟩ : ∃ y : Int32, y = x_101693 + Int32.ofInt 1 := ⟨_, rfl⟩
            have h_v_101711 : 1 ≤ (v_101711 : Int32).toInt ∧ (v_101711 : Int32).toInt ≤ 12 := by rw [v_101711_e]; exact tr_add h_101698 (⟨by decide, by decide⟩ : 1 ≤ (Int32.ofInt 1 : Int32).toInt ∧ (Int32.ofInt 1 : Int32).toInt ≤ 1) (by decide) (by decide) (by decide) (by decide)
            have q_v_101711 : v_101711.toInt = x_101693.toInt + 1 := by rw [v_101711_e]; exact tr_addE h_101698 (⟨by decide, by decide⟩ : 1 ≤ (Int32.ofInt 1 : Int32).toInt ∧ (Int32.ofInt 1 : Int32).toInt ≤ 1) (by decide) (by decide)
            refine lv_iinc (v := v_101711) (lv' := [(1, .int v_101711), (0, .ref oc)]) hx hb dX3_findRings_82 hl (k := 0) rfl v_101711_e.symm (by decide) rfl (fun ls hl => ?_)
            refine lv_goto (tgt := 12) hx hb dX3_findRings_85 (by decide) ?_
            exact ih_101696 x_101692 v_101711 x_101694 f_101695 H _ ls (tr_w h_101701 (by decide) (by decide)) (tr_w h_v_101711 (by decide) (by decide)) (by (first | (clear h_orc h_ose h_101704 hw_101707 c_101708_i h_101709; omega) | omega)) (by (first | (clear h_orc h_ose h_101704 hw_101707 c_101708_i h_101709; omega) | omega)) (hP.sub [0, 1, 2, 3, 4] rfl) (hD.sub [0, 1, 2, 3, 4] (by decide) rfl) hS (lv_sub hl [0, 1] rfl)
          · skip
            have c_101708_i : ¬ (r_101706 : Int32).toInt = (0 : Int32).toInt := (fun q => c_101708 (Int32.toInt_inj.mp q))
            have h_101710 : 1 ≤ (r_101706 : Int32).toInt ∧ (r_101706 : Int32).toInt ≤ 1 := nr_ne_l hw_101707 (⟨by decide, by decide⟩ : 0 ≤ (0 : Int32).toInt ∧ (0 : Int32).toInt ≤ 0) c_101708_i (by decide) (by decide)
            refine lv_aload_n hx hb dX3_findRings_42 rfl (lv_at hl 1 rfl) ?_
            refine va_get (D := D) (ci := 3) (v := .ref oc_ringBits) (C := RX3) (T := TX3) (N := 10) hx hb hts inlX3 hown hK hP 0 rfl rfl 6 (by decide) (hts (Cond.fieldLink RX3 28 "ChanceRings$Outcome" "ringBits" "[I") qw_651) (fun _ h9 => h9) rfl dX3_findRings_43 ?_
            refine lv_aload_n hx hb dX3_findRings_46 rfl (lv_at hl 1 rfl) ?_
            refine va_get (D := D) (ci := 3) (v := .int x_101692) (C := RX3) (T := TX3) (N := 10) hx hb hts inlX3 hown hK hP 0 rfl rfl 7 (by decide) (hts (Cond.fieldLink RX3 87 "ChanceRings$Outcome" "ringCount" "I") qw_645) (fun _ h9 => h9) rfl dX3_findRings_47 ?_
            refine lv_aload_n hx hb dX3_findRings_50 rfl (lv_at hl 1 rfl) ?_
            refine va_get (D := D) (ci := 3) (v := .ref oc_reach) (C := RX3) (T := TX3) (N := 10) hx hb hts inlX3 hown hK hP 0 rfl rfl 5 (by decide) (hts (Cond.fieldLink RX3 25 "ChanceRings$Outcome" "reach" "[I") qw_638) (fun _ h9 => h9) rfl dX3_findRings_51 ?_
            refine lv_iload_n hx hb dX3_findRings_54 rfl (lv_at hl 0 rfl) ?_
            refine va_iald hx hb hK hP 3 0 rfl rfl (tr_in h_101698 (by decide) (by decide)) dX3_findRings_55 ?_
            refine lv_topi (fun v_101712 v_101712_e => ?_)
            refine va_iast hx hb hK hP hD hS 4 0 rfl rfl (tr_in h_101701 (by decide) (by decide)) dX3_findRings_56 (fun H locs hP hD hS => ?_)
            obtain ⟨f_101713, hP, hD⟩ : ∃ FX : Nat → Int32, va_P D vwCl [(wO3 oc n sv oc_plan ow ol oc_reach oc_ringBits x_101692 x_101694 ose), (wO2 n n_nodes n_kind n_pay n_name n_ways n_held n_targets n_weights), (wI g n_kind 0 12 n_fkind), (wI g oc_reach 0 12 orf), (wI g oc_ringBits 0 12 FX)] H ∧ va_D A [(wO3 oc n sv oc_plan ow ol oc_reach oc_ringBits x_101692 x_101694 ose), (wO2 n n_nodes n_kind n_pay n_name n_ways n_held n_targets n_weights), (wI g n_kind 0 12 n_fkind), (wI g oc_reach 0 12 orf), (wI g oc_ringBits 0 12 FX)] := ⟨_, hP, hD⟩
            have hP : va_P D vwCl [(wO3 oc n sv oc_plan ow ol oc_reach oc_ringBits x_101692 x_101694 ose), (wO2 n n_nodes n_kind n_pay n_name n_ways n_held n_targets n_weights), (wI g n_kind 0 12 n_fkind), (wI g oc_reach 0 12 orf), (wI g oc_ringBits 0 12 f_101713)] H := hP
            have hD : va_D A [(wO3 oc n sv oc_plan ow ol oc_reach oc_ringBits x_101692 x_101694 ose), (wO2 n n_nodes n_kind n_pay n_name n_ways n_held n_targets n_weights), (wI g n_kind 0 12 n_fkind), (wI g oc_reach 0 12 orf), (wI g oc_ringBits 0 12 f_101713)] := hD
            refine lv_aload_n hx hb dX3_findRings_57 rfl (lv_at hl 1 rfl) ?_
            refine lv_dup hx hb dX3_findRings_58 rfl ?_
            refine va_get (D := D) (ci := 3) (v := .int x_101694) (C := RX3) (T := TX3) (N := 10) hx hb hts inlX3 hown hK hP 0 rfl rfl 8 (by decide) (hts (Cond.fieldLink RX3 90 "ChanceRings$Outcome" "ringNodes" "I") qw_644) (fun _ h9 => h9) rfl dX3_findRings_59 ?_
            refine lv_aload_n hx hb dX3_findRings_62 rfl (lv_at hl 1 rfl) ?_
            refine va_get (D := D) (ci := 3) (v := .ref oc_reach) (C := RX3) (T := TX3) (N := 10) hx hb hts inlX3 hown hK hP 0 rfl rfl 5 (by decide) (hts (Cond.fieldLink RX3 25 "ChanceRings$Outcome" "reach" "[I") qw_638) (fun _ h9 => h9) rfl dX3_findRings_63 ?_
            refine lv_iload_n hx hb dX3_findRings_66 rfl (lv_at hl 0 rfl) ?_
            refine va_iald hx hb hK hP 3 0 rfl rfl (tr_in h_101698 (by decide) (by decide)) dX3_findRings_67 ?_
            refine tz_i (y := v_101712) v_101712_e.symm ?_
            refine lv_ior hx hb dX3_findRings_68 ?_
            refine lv_topi (fun v_101714 v_101714_e => ?_)
            refine va_put (D := D) (ci := 3) (v := .int v_101714) (ty := .int) (C := RX3) (T := TX3) (N := 10) hx hb hts inlX3 tyX3 tyX3_ok nmX3 hown hK hP hD hS 0 rfl rfl 8 (by decide) (hts (Cond.fieldLink RX3 90 "ChanceRings$Outcome" "ringNodes" "I") qw_644) (fun _ h9 => h9) rfl (by decide +kernel) rfl rfl (Nat.le_of_ble_eq_true rfl) dX3_findRings_69 (fun H locs hP hD hS => ?_)
            have hP : va_P D vwCl [(wO3 oc n sv oc_plan ow ol oc_reach oc_ringBits x_101692 v_101714 ose), (wO2 n n_nodes n_kind n_pay n_name n_ways n_held n_targets n_weights), (wI g n_kind 0 12 n_fkind), (wI g oc_reach 0 12 orf), (wI g oc_ringBits 0 12 f_101713)] H := hP
            have hD : va_D A [(wO3 oc n sv oc_plan ow ol oc_reach oc_ringBits x_101692 v_101714 ose), (wO2 n n_nodes n_kind n_pay n_name n_ways n_held n_targets n_weights), (wI g n_kind 0 12 n_fkind), (wI g oc_reach 0 12 orf), (wI g oc_ringBits 0 12 f_101713)] := hD
            refine lv_aload_n hx hb dX3_findRings_72 rfl (lv_at hl 1 rfl) ?_
            refine lv_dup hx hb dX3_findRings_73 rfl ?_
            refine va_get (D := D) (ci := 3) (v := .int x_101692) (C := RX3) (T := TX3) (N := 10) hx hb hts inlX3 hown hK hP 0 rfl rfl 7 (by decide) (hts (Cond.fieldLink RX3 87 "ChanceRings$Outcome" "ringCount" "I") qw_645) (fun _ h9 => h9) rfl dX3_findRings_74 ?_
            refine lv_iconst (v := 1) hx hb dX3_findRings_77 (by decide) ?_
            refine lv_iadd hx hb dX3_findRings_78 ?_
            refine lv_topi (fun v_101715 v_101715_e => ?_)
            have h_v_101715 : 1 ≤ (v_101715 : Int32).toInt ∧ (v_101715 : Int32).toInt ≤ 12 := by rw [v_101715_e]; exact tr_add h_101701 (⟨by decide, by decide⟩ : 1 ≤ (1 : Int32).toInt ∧ (1 : Int32).toInt ≤ 1) (by decide) (by decide) (by decide) (by decide)
            have q_v_101715 : v_101715.toInt = x_101692.toInt + 1 := by rw [v_101715_e]; exact tr_addE h_101701 (⟨by decide, by decide⟩ : 1 ≤ (1 : Int32).toInt ∧ (1 : Int32).toInt ≤ 1) (by decide) (by decide)
            refine va_put (D := D) (ci := 3) (v := .int v_101715) (ty := .int) (C := RX3) (T := TX3) (N := 10) hx hb hts inlX3 tyX3 tyX3_ok nmX3 hown hK hP hD hS 0 rfl rfl 7 (by decide) (hts (Cond.fieldLink RX3 87 "ChanceRings$Outcome" "ringCount" "I") qw_645) (fun _ h9 => h9) rfl (by decide +kernel) rfl rfl (Nat.le_of_ble_eq_true rfl) dX3_findRings_79 (fun H locs hP hD hS => ?_)
            have hP : va_P D vwCl [(wO3 oc n sv oc_plan ow ol oc_reach oc_ringBits v_101715 v_101714 ose), (wO2 n n_nodes n_kind n_pay n_name n_ways n_held n_targets n_weights), (wI g n_kind 0 12 n_fkind), (wI g oc_reach 0 12 orf), (wI g oc_ringBits 0 12 f_101713)] H := hP
            have hD : va_D A [(wO3 oc n sv oc_plan ow ol oc_reach oc_ringBits v_101715 v_101714 ose), (wO2 n n_nodes n_kind n_pay n_name n_ways n_held n_targets n_weights), (wI g n_kind 0 12 n_fkind), (wI g oc_reach 0 12 orf), (wI g oc_ringBits 0 12 f_101713)] := hD
            obtain ⟨v_101716, v_101716_e⟩ : ∃ y : Int32, y = x_101693 + Int32.ofInt 1 := ⟨_, rfl⟩
            have h_v_101716 : 1 ≤ (v_101716 : Int32).toInt ∧ (v_101716 : Int32).toInt ≤ 12 := by rw [v_101716_e]; exact tr_add h_101698 (⟨by decide, by decide⟩ : 1 ≤ (Int32.ofInt 1 : Int32).toInt ∧ (Int32.ofInt 1 : Int32).toInt ≤ 1) (by decide) (by decide) (by decide) (by decide)
            have q_v_101716 : v_101716.toInt = x_101693.toInt + 1 := by rw [v_101716_e]; exact tr_addE h_101698 (⟨by decide, by decide⟩ : 1 ≤ (Int32.ofInt 1 : Int32).toInt ∧ (Int32.ofInt 1 : Int32).toInt ≤ 1) (by decide) (by decide)
            refine lv_iinc (v := v_101716) (lv' := [(1, .int v_101716), (0, .ref oc)]) hx hb dX3_findRings_82 hl (k := 0) rfl v_101716_e.symm (by decide) rfl (fun ls hl => ?_)
            refine lv_goto (tgt := 12) hx hb dX3_findRings_85 (by decide) ?_
            exact ih_101696 v_101715 v_101716 v_101714 f_101713 H _ ls (tr_w h_v_101715 (by decide) (by decide)) (tr_w h_v_101716 (by decide) (by decide)) (by (first | (clear h_orc h_ose h_101704 hw_101707 c_101708_i h_101710; omega) | omega)) (by (first | (clear h_orc h_ose h_101704 hw_101707 c_101708_i h_101710; omega) | omega)) (hP.sub [0, 1, 2, 3, 4] rfl) (hD.sub [0, 1, 2, 3, 4] (by decide) rfl) hS (lv_sub hl [0, 1] rfl)
  exact lp_101696 13 0 0 0 obf H _ ls (⟨by decide, by decide⟩ : 0 ≤ (0 : Int32).toInt ∧ (0 : Int32).toInt ≤ 12) (⟨by decide, by decide⟩ : 0 ≤ (0 : Int32).toInt ∧ (0 : Int32).toInt ≤ 12) (by decide) (by decide) (hP.sub [0, 1, 2, 3, 4] rfl) (hD.sub [0, 1, 2, 3, 4] (by decide) rfl) hS (lv_sub hl [0, 1] rfl)
set_option maxHeartbeats 4000000 in
set_option maxRecDepth 100000 in
theorem c_X3_worthless (l : Launch) (D : va_G) (g : Nat → ClassId) (oc : Nat) (n : Nat) (sv : Nat) (oc_plan : Nat) (ow : Nat) (ol : Nat) (oc_reach : Nat) (oc_ringBits : Nat) (orc : Int32) (orn : Int32) (ose : Int32) (n_nodes : Int32) (n_kind : Nat) (n_pay : Nat) (n_name : Nat) (n_ways : Nat) (n_held : Nat) (n_targets : Nat) (n_weights : Nat) (ow_part : Nat) (oww : Int64) (owp : Nat → Int64) (h_orc : 0 ≤ (orc : Int32).toInt ∧ (orc : Int32).toInt ≤ 12) (h_ose : 0 ≤ (ose : Int32).toInt ∧ (ose : Int32).toInt ≤ 1) (h_n_nodes : 0 ≤ (n_nodes : Int32).toInt ∧ (n_nodes : Int32).toInt ≤ 12) : Met l yX3_worthless (.code yX3_worthless cX3_worthless 3 (some .int) :: wsL_law) ({ frames := 0, cells := 0, slots := 0, locals := 0 }) (va_Pc [.ref oc] (fun U => va_P D vwCl [(wO3 oc n sv oc_plan ow ol oc_reach oc_ringBits orc orn ose), (wO2 n n_nodes n_kind n_pay n_name n_ways n_held n_targets n_weights), (wO10 ow ow_part oww), (wJ g ow_part 1 12 owp)] U.heap ∧ va_K D vwCl (TY g) U)) (vp_Si (fun r => True)) 0 0 (fun _ => False) := by
  refine Met.ofW (cc := cX3_worthless) (maxL := 3) (ret := (some .int)) (by decide) rfl ?_
  intro p e s m args below meth c s₁ B hml hv
  obtain ⟨ha, hP, hK⟩ := hv
  have hx := B.exec
  have hb := B.bytes
  have hr := B.returns
  have hts0 := atoms_spec (ws := (.code yX3_worthless cX3_worthless 3 (some .int) :: wsL_law)) B.pre
  have hts : ∀ w ∈ wsL_law, w.before args s = true := fun w h => hts0 w (List.mem_cons_of_mem _ h)
  have hown : s.vm.findClass RX3 = some m.cls := findClass_of_methodNamed B.named
  have hlocks := B.notSynchronized
  have hP : va_P D vwCl [(wO3 oc n sv oc_plan ow ol oc_reach oc_ringBits orc orn ose), (wO2 n n_nodes n_kind n_pay n_name n_ways n_held n_targets n_weights), (wO10 ow ow_part oww), (wJ g ow_part 1 12 owp)] s.heap := hP
  refine W.eq (g2 := entryFrame m ([.ref oc] : List Value).toArray 3) (by rw [ha]) ?_
  have hl := lv_entry ([.ref oc]) (n := 3) (Nat.le_of_ble_eq_true rfl)
  rw [lg_entry_eq]
  generalize (lg_sl ([.ref oc]) ++ List.replicate (3 - (lg_sl ([.ref oc])).length) Slot.unset).toArray = ls at hl ⊢
  have hl : lv_has ls 3 [(0, .ref oc)] := hl
  refine lv_iconst (v := 0) hx hb dX3_worthless_0 (by decide) ?_
  refine lv_istore_n (lv' := [(1, .int 0), (0, .ref oc)]) hx hb dX3_worthless_1 rfl hl (by decide) rfl (fun ls hl => ?_)
  refine lv_iconst (v := 0) hx hb dX3_worthless_2 (by decide) ?_
  refine lv_istore_n (lv' := [(2, .int 0), (1, .int 0), (0, .ref oc)]) hx hb dX3_worthless_3 rfl hl (by decide) rfl (fun ls hl => ?_)
  have lp_101825 : ∀ (n_101825 : Nat) (x_101823 : Int32) (x_101824 : Int32) (ls : Array Slot), (0 ≤ (x_101823 : Int32).toInt ∧ (x_101823 : Int32).toInt ≤ 12) → (12 - x_101823.toInt < (n_101825 : Int)) → lv_has ls 3 [(2, .int x_101823), (1, .int x_101824), (0, .ref oc)] → W p l e (headSpec (.code yX3_worthless cX3_worthless 3 (some .int) :: wsL_law) ({ frames := 0, cells := 0, slots := 0, locals := 0 })).room s m args below meth c s.heap [] 0 0 (MQ below (vp_Si (fun r => True)) args s 0 0 (fun _ => False)) (F0 m 4 ls []) := by
    intro n_101825
    induction n_101825 with
    | zero =>
      intro x_101823 x_101824 ls h_x_101823 hm_101825 hl
      exfalso; omega
    | succ n_101825 ih_101825 =>
      intro x_101823 x_101824 ls h_x_101823 hm_101825 hl
      refine lv_iload_n hx hb dX3_worthless_4 rfl (lv_at hl 0 rfl) ?_
      refine lv_aload_n hx hb dX3_worthless_5 rfl (lv_at hl 2 rfl) ?_
      refine va_get (D := D) (ci := 3) (v := .ref n) (C := RX3) (T := TX3) (N := 10) hx hb hts inlX3 hown hK hP 0 rfl rfl 0 (by decide) (hts (Cond.fieldLink RX3 31 "ChanceRings$Outcome" "net" "LChanceRings$Net;") qw_636) (fun _ h9 => h9) rfl dX3_worthless_6 ?_
      refine va_get (D := D) (ci := 2) (v := .int n_nodes) (C := RX2) (T := TX2) (N := 8) hx hb hts inlX2 hown hK hP 1 rfl rfl 0 (by decide) (hts (Cond.fieldLink RX3 63 "ChanceRings$Net" "nodes" "I") qw_637) (fun _ h9 => h9) rfl dX3_worthless_9 ?_
      refine lv_icmp_ge (tgt := 41) hx hb dX3_worthless_12 (by decide) (fun c_101826 => ?_) (fun c_101826 => ?_)
      · skip
        refine lv_iload_n hx hb dX3_worthless_41 rfl (lv_at hl 1 rfl) ?_
        exact W.iret (v := x_101824) hx hb hr (fun t ht hW => ⟨x_101824, rfl, trivial, ht⟩) (fun _ h => nomatch h) dX3_worthless_42
      · skip
        have c_101826_i := Int32.lt_iff_toInt_lt.mp (Int32.not_le.mp c_101826)
        have h_101827 : 0 ≤ (x_101823 : Int32).toInt ∧ (x_101823 : Int32).toInt ≤ 11 := nr_lt_l h_x_101823 h_n_nodes c_101826_i (by decide) (by decide)
        have h_101828 : 1 ≤ (n_nodes : Int32).toInt ∧ (n_nodes : Int32).toInt ≤ 12 := nr_lt_r h_x_101823 h_n_nodes c_101826_i (by decide) (by decide)
        refine lv_aload_n hx hb dX3_worthless_15 rfl (lv_at hl 2 rfl) ?_
        refine va_get (D := D) (ci := 3) (v := .ref ow) (C := RX3) (T := TX3) (N := 10) hx hb hts inlX3 hown hK hP 0 rfl rfl 3 (by decide) (hts (Cond.fieldLink RX3 18 "ChanceRings$Outcome" "worth" "LChanceRings$Values;") qw_652) (fun _ h9 => h9) rfl dX3_worthless_16 ?_
        refine va_get (D := D) (ci := 10) (v := .ref ow_part) (C := RX10) (T := TX10) (N := 2) hx hb hts inlX10 hown hK hP 2 rfl rfl 0 (by decide) (hts (Cond.fieldLink RX3 99 "ChanceRings$Values" "part" "[J") qw_653) (fun _ h9 => h9) rfl dX3_worthless_19 ?_
        refine lv_iload_n hx hb dX3_worthless_22 rfl (lv_at hl 0 rfl) ?_
        refine va_lald hx hb hK hP 3 1 rfl rfl (tr_in h_101827 (by decide) (by decide)) dX3_worthless_23 ?_
        refine lv_topl (fun w_101829 _ => ?_)
        refine lv_lconst (v := 0) hx hb dX3_worthless_24 (by decide) ?_
        refine W.lcmp hx hb dX3_worthless_25 ?_
        refine lv_topi (fun v_101830 v_101830_e => ?_)
        have h_v_101830 : (-1) ≤ (v_101830 : Int32).toInt ∧ (v_101830 : Int32).toInt ≤ 1 := by rw [v_101830_e]; exact tr_cmp _ _
        refine lv_if_ne (tgt := 35) hx hb dX3_worthless_26 (by decide) (fun c_101831 => ?_) (fun c_101831 => ?_)
        · skip
          have z_101832 : ¬ w_101829 = 0 := tr_cmp0 (by rw [← v_101830_e]; exact c_101831)
          obtain ⟨v_101834, v_101834_e⟩ : ∃ y : Int32, y = x_101823 + Int32.ofInt 1 := ⟨_, rfl⟩
          have h_v_101834 : 1 ≤ (v_101834 : Int32).toInt ∧ (v_101834 : Int32).toInt ≤ 12 := by rw [v_101834_e]; exact tr_add h_101827 (⟨by decide, by decide⟩ : 1 ≤ (Int32.ofInt 1 : Int32).toInt ∧ (Int32.ofInt 1 : Int32).toInt ≤ 1) (by decide) (by decide) (by decide) (by decide)
          have q_v_101834 : v_101834.toInt = x_101823.toInt + 1 := by rw [v_101834_e]; exact tr_addE h_101827 (⟨by decide, by decide⟩ : 1 ≤ (Int32.ofInt 1 : Int32).toInt ∧ (Int32.ofInt 1 : Int32).toInt ≤ 1) (by decide) (by decide)
          refine lv_iinc (v := v_101834) (lv' := [(2, .int v_101834), (1, .int x_101824), (0, .ref oc)]) hx hb dX3_worthless_35 hl (k := 0) rfl v_101834_e.symm (by decide) rfl (fun ls hl => ?_)
          refine lv_goto (tgt := 4) hx hb dX3_worthless_38 (by decide) ?_
          exact ih_101825 v_101834 x_101824 ls (tr_w h_v_101834 (by decide) (by decide)) (by (first | (clear h_orc h_ose h_v_101830 z_101832; omega) | omega)) (lv_sub hl [0, 1, 2] rfl)
        · skip
          have c_101831_i : (v_101830 : Int32).toInt = (0 : Int32).toInt := congrArg Int32.toInt c_101831
          have h_101833 : 0 ≤ (v_101830 : Int32).toInt ∧ (v_101830 : Int32).toInt ≤ 0 := nr_eq_l h_v_101830 (⟨by decide, by decide⟩ : 0 ≤ (0 : Int32).toInt ∧ (0 : Int32).toInt ≤ 0) c_101831_i (by decide) (by decide)
          refine lv_iload_n hx hb dX3_worthless_29 rfl (lv_at hl 1 rfl) ?_
          refine lv_iconst (v := 1) hx hb dX3_worthless_30 (by decide) ?_
          refine lv_iload_n hx hb dX3_worthless_31 rfl (lv_at hl 0 rfl) ?_
          refine lv_ishl hx hb dX3_worthless_32 ?_
          refine lv_topi (fun v_101835 v_101835_e => ?_)
          refine lv_ior hx hb dX3_worthless_33 ?_
          refine lv_topi (fun v_101836 v_101836_e => ?_)
          refine lv_istore_n (lv' := [(1, .int v_101836), (2, .int x_101823), (0, .ref oc)]) hx hb dX3_worthless_34 rfl hl (by decide) rfl (fun ls hl => ?_)
          obtain ⟨v_101837, v_101837_e⟩ : ∃ y : Int32, y = x_101823 + Int32.ofInt 1 := ⟨_, rfl⟩
          have h_v_101837 : 1 ≤ (v_101837 : Int32).toInt ∧ (v_101837 : Int32).toInt ≤ 12 := by rw [v_101837_e]; exact tr_add h_101827 (⟨by decide, by decide⟩ : 1 ≤ (Int32.ofInt 1 : Int32).toInt ∧ (Int32.ofInt 1 : Int32).toInt ≤ 1) (by decide) (by decide) (by decide) (by decide)
          have q_v_101837 : v_101837.toInt = x_101823.toInt + 1 := by rw [v_101837_e]; exact tr_addE h_101827 (⟨by decide, by decide⟩ : 1 ≤ (Int32.ofInt 1 : Int32).toInt ∧ (Int32.ofInt 1 : Int32).toInt ≤ 1) (by decide) (by decide)
          refine lv_iinc (v := v_101837) (lv' := [(2, .int v_101837), (1, .int v_101836), (0, .ref oc)]) hx hb dX3_worthless_35 hl (k := 1) rfl v_101837_e.symm (by decide) rfl (fun ls hl => ?_)
          refine lv_goto (tgt := 4) hx hb dX3_worthless_38 (by decide) ?_
          exact ih_101825 v_101837 v_101836 ls (tr_w h_v_101837 (by decide) (by decide)) (by (first | (clear h_orc h_ose h_v_101830 c_101831_i h_101833; omega) | omega)) (lv_sub hl [0, 1, 2] rfl)
  exact lp_101825 13 0 0 ls (⟨by decide, by decide⟩ : 0 ≤ (0 : Int32).toInt ∧ (0 : Int32).toInt ≤ 12) (by decide) (lv_sub hl [0, 1, 2] rfl)
set_option maxHeartbeats 4000000 in
set_option maxRecDepth 100000 in
theorem c_X3_countAhead (l : Launch) (D : va_G) (g : Nat → ClassId) (oc : Nat) (p0 : Int32) (n : Nat) (sv : Nat) (oc_plan : Nat) (ow : Nat) (ol : Nat) (oc_reach : Nat) (oc_ringBits : Nat) (orc : Int32) (orn : Int32) (ose : Int32) (n_nodes : Int32) (n_kind : Nat) (n_pay : Nat) (n_name : Nat) (n_ways : Nat) (n_held : Nat) (n_targets : Nat) (n_weights : Nat) (ow_part : Nat) (oww : Int64) (owp : Nat → Int64) (h_p0 : 0 ≤ (p0 : Int32).toInt ∧ (p0 : Int32).toInt ≤ 11) (h_orc : 0 ≤ (orc : Int32).toInt ∧ (orc : Int32).toInt ≤ 12) (h_ose : 0 ≤ (ose : Int32).toInt ∧ (ose : Int32).toInt ≤ 1) (h_n_nodes : 0 ≤ (n_nodes : Int32).toInt ∧ (n_nodes : Int32).toInt ≤ 12) : Met l yX3_countAhead (.code yX3_countAhead cX3_countAhead 4 (some .int) :: wsL_law) ({ frames := 0, cells := 0, slots := 0, locals := 0 }) (va_Pc [.ref oc, .int p0] (fun U => va_P D vwCl [(wO3 oc n sv oc_plan ow ol oc_reach oc_ringBits orc orn ose), (wO2 n n_nodes n_kind n_pay n_name n_ways n_held n_targets n_weights), (wO10 ow ow_part oww), (wJ g ow_part 1 12 owp)] U.heap ∧ va_K D vwCl (TY g) U)) (vp_Si (fun r => True)) 0 0 (fun _ => False) := by
  refine Met.ofW (cc := cX3_countAhead) (maxL := 4) (ret := (some .int)) (by decide) rfl ?_
  intro p e s m args below meth c s₁ B hml hv
  obtain ⟨ha, hP, hK⟩ := hv
  have hx := B.exec
  have hb := B.bytes
  have hr := B.returns
  have hts0 := atoms_spec (ws := (.code yX3_countAhead cX3_countAhead 4 (some .int) :: wsL_law)) B.pre
  have hts : ∀ w ∈ wsL_law, w.before args s = true := fun w h => hts0 w (List.mem_cons_of_mem _ h)
  have hown : s.vm.findClass RX3 = some m.cls := findClass_of_methodNamed B.named
  have hlocks := B.notSynchronized
  have hP : va_P D vwCl [(wO3 oc n sv oc_plan ow ol oc_reach oc_ringBits orc orn ose), (wO2 n n_nodes n_kind n_pay n_name n_ways n_held n_targets n_weights), (wO10 ow ow_part oww), (wJ g ow_part 1 12 owp)] s.heap := hP
  refine W.eq (g2 := entryFrame m ([.ref oc, .int p0] : List Value).toArray 4) (by rw [ha]) ?_
  have hl := lv_entry ([.ref oc, .int p0]) (n := 4) (Nat.le_of_ble_eq_true rfl)
  rw [lg_entry_eq]
  generalize (lg_sl ([.ref oc, .int p0]) ++ List.replicate (4 - (lg_sl ([.ref oc, .int p0])).length) Slot.unset).toArray = ls at hl ⊢
  have hl : lv_has ls 4 [(0, .ref oc), (1, .int p0)] := hl
  refine lv_iconst (v := 0) hx hb dX3_countAhead_0 (by decide) ?_
  refine lv_istore_n (lv' := [(2, .int 0), (0, .ref oc), (1, .int p0)]) hx hb dX3_countAhead_1 rfl hl (by decide) rfl (fun ls hl => ?_)
  refine lv_iconst (v := 0) hx hb dX3_countAhead_2 (by decide) ?_
  refine lv_istore_n (lv' := [(3, .int 0), (2, .int 0), (0, .ref oc), (1, .int p0)]) hx hb dX3_countAhead_3 rfl hl (by decide) rfl (fun ls hl => ?_)
  have lp_102407 : ∀ (n_102407 : Nat) (x_102405 : Int32) (x_102406 : Int32) (ls : Array Slot), (0 ≤ (x_102405 : Int32).toInt ∧ (x_102405 : Int32).toInt ≤ 12) → (12 - x_102405.toInt < (n_102407 : Int)) → lv_has ls 4 [(3, .int x_102405), (2, .int x_102406), (0, .ref oc), (1, .int p0)] → W p l e (headSpec (.code yX3_countAhead cX3_countAhead 4 (some .int) :: wsL_law) ({ frames := 0, cells := 0, slots := 0, locals := 0 })).room s m args below meth c s.heap [] 0 0 (MQ below (vp_Si (fun r => True)) args s 0 0 (fun _ => False)) (F0 m 4 ls []) := by
    intro n_102407
    induction n_102407 with
    | zero =>
      intro x_102405 x_102406 ls h_x_102405 hm_102407 hl
      exfalso; omega
    | succ n_102407 ih_102407 =>
      intro x_102405 x_102406 ls h_x_102405 hm_102407 hl
      refine lv_iload_n hx hb dX3_countAhead_4 rfl (lv_at hl 0 rfl) ?_
      refine lv_aload_n hx hb dX3_countAhead_5 rfl (lv_at hl 2 rfl) ?_
      refine va_get (D := D) (ci := 3) (v := .ref n) (C := RX3) (T := TX3) (N := 10) hx hb hts inlX3 hown hK hP 0 rfl rfl 0 (by decide) (hts (Cond.fieldLink RX3 31 "ChanceRings$Outcome" "net" "LChanceRings$Net;") qw_636) (fun _ h9 => h9) rfl dX3_countAhead_6 ?_
      refine va_get (D := D) (ci := 2) (v := .int n_nodes) (C := RX2) (T := TX2) (N := 8) hx hb hts inlX2 hown hK hP 1 rfl rfl 0 (by decide) (hts (Cond.fieldLink RX3 63 "ChanceRings$Net" "nodes" "I") qw_637) (fun _ h9 => h9) rfl dX3_countAhead_9 ?_
      refine lv_icmp_ge (tgt := 73) hx hb dX3_countAhead_12 (by decide) (fun c_102408 => ?_) (fun c_102408 => ?_)
      · skip
        refine lv_iload_n hx hb dX3_countAhead_73 rfl (lv_at hl 1 rfl) ?_
        exact W.iret (v := x_102406) hx hb hr (fun t ht hW => ⟨x_102406, rfl, trivial, ht⟩) (fun _ h => nomatch h) dX3_countAhead_74
      · skip
        have c_102408_i := Int32.lt_iff_toInt_lt.mp (Int32.not_le.mp c_102408)
        have h_102409 : 0 ≤ (x_102405 : Int32).toInt ∧ (x_102405 : Int32).toInt ≤ 11 := nr_lt_l h_x_102405 h_n_nodes c_102408_i (by decide) (by decide)
        have h_102410 : 1 ≤ (n_nodes : Int32).toInt ∧ (n_nodes : Int32).toInt ≤ 12 := nr_lt_r h_x_102405 h_n_nodes c_102408_i (by decide) (by decide)
        refine lv_aload_n hx hb dX3_countAhead_15 rfl (lv_at hl 2 rfl) ?_
        refine va_get (D := D) (ci := 3) (v := .ref ow) (C := RX3) (T := TX3) (N := 10) hx hb hts inlX3 hown hK hP 0 rfl rfl 3 (by decide) (hts (Cond.fieldLink RX3 18 "ChanceRings$Outcome" "worth" "LChanceRings$Values;") qw_652) (fun _ h9 => h9) rfl dX3_countAhead_16 ?_
        refine va_get (D := D) (ci := 10) (v := .ref ow_part) (C := RX10) (T := TX10) (N := 2) hx hb hts inlX10 hown hK hP 2 rfl rfl 0 (by decide) (hts (Cond.fieldLink RX3 99 "ChanceRings$Values" "part" "[J") qw_653) (fun _ h9 => h9) rfl dX3_countAhead_19 ?_
        refine lv_iload_n hx hb dX3_countAhead_22 rfl (lv_at hl 0 rfl) ?_
        refine va_lald hx hb hK hP 3 1 rfl rfl (tr_in h_102409 (by decide) (by decide)) dX3_countAhead_23 ?_
        refine lv_topl (fun w_102411 _ => ?_)
        refine lv_aload_n hx hb dX3_countAhead_24 rfl (lv_at hl 2 rfl) ?_
        refine va_get (D := D) (ci := 3) (v := .ref ow) (C := RX3) (T := TX3) (N := 10) hx hb hts inlX3 hown hK hP 0 rfl rfl 3 (by decide) (hts (Cond.fieldLink RX3 18 "ChanceRings$Outcome" "worth" "LChanceRings$Values;") qw_652) (fun _ h9 => h9) rfl dX3_countAhead_25 ?_
        refine va_get (D := D) (ci := 10) (v := .ref ow_part) (C := RX10) (T := TX10) (N := 2) hx hb hts inlX10 hown hK hP 2 rfl rfl 0 (by decide) (hts (Cond.fieldLink RX3 99 "ChanceRings$Values" "part" "[J") qw_653) (fun _ h9 => h9) rfl dX3_countAhead_28 ?_
        refine lv_iload_n hx hb dX3_countAhead_31 rfl (lv_at hl 3 rfl) ?_
        refine va_lald hx hb hK hP 3 1 rfl rfl (tr_in h_p0 (by decide) (by decide)) dX3_countAhead_32 ?_
        refine lv_topl (fun w_102412 _ => ?_)
        refine W.lcmp hx hb dX3_countAhead_33 ?_
        refine lv_topi (fun v_102413 v_102413_e => ?_)
        have h_v_102413 : (-1) ≤ (v_102413 : Int32).toInt ∧ (v_102413 : Int32).toInt ≤ 1 := by rw [v_102413_e]; exact tr_cmp _ _
        refine lv_if_gt (tgt := 64) hx hb dX3_countAhead_34 (by decide) (fun c_102414 => ?_) (fun c_102414 => ?_)
        · skip
          have c_102414_i := Int32.lt_iff_toInt_lt.mp c_102414
          have h_102415 : 1 ≤ (v_102413 : Int32).toInt ∧ (v_102413 : Int32).toInt ≤ 1 := nr_lt_r (⟨by decide, by decide⟩ : 0 ≤ (0 : Int32).toInt ∧ (0 : Int32).toInt ≤ 0) h_v_102413 c_102414_i (by decide) (by decide)
          obtain ⟨v_102417, v_102417_e⟩ : ∃ y : Int32, y = x_102406 + Int32.ofInt 1 := ⟨_, rfl⟩
          refine lv_iinc (v := v_102417) (lv' := [(2, .int v_102417), (3, .int x_102405), (0, .ref oc), (1, .int p0)]) hx hb dX3_countAhead_64 hl (k := 1) rfl v_102417_e.symm (by decide) rfl (fun ls hl => ?_)
          obtain ⟨v_102418, v_102418_e⟩ : ∃ y : Int32, y = x_102405 + Int32.ofInt 1 := ⟨_, rfl⟩
          have h_v_102418 : 1 ≤ (v_102418 : Int32).toInt ∧ (v_102418 : Int32).toInt ≤ 12 := by rw [v_102418_e]; exact tr_add h_102409 (⟨by decide, by decide⟩ : 1 ≤ (Int32.ofInt 1 : Int32).toInt ∧ (Int32.ofInt 1 : Int32).toInt ≤ 1) (by decide) (by decide) (by decide) (by decide)
          have q_v_102418 : v_102418.toInt = x_102405.toInt + 1 := by rw [v_102418_e]; exact tr_addE h_102409 (⟨by decide, by decide⟩ : 1 ≤ (Int32.ofInt 1 : Int32).toInt ∧ (Int32.ofInt 1 : Int32).toInt ≤ 1) (by decide) (by decide)
          refine lv_iinc (v := v_102418) (lv' := [(3, .int v_102418), (2, .int v_102417), (0, .ref oc), (1, .int p0)]) hx hb dX3_countAhead_67 hl (k := 1) rfl v_102418_e.symm (by decide) rfl (fun ls hl => ?_)
          refine lv_goto (tgt := 4) hx hb dX3_countAhead_70 (by decide) ?_
          exact ih_102407 v_102418 v_102417 ls (tr_w h_v_102418 (by decide) (by decide)) (by (first | (clear h_p0 h_orc h_ose h_v_102413 c_102414_i h_102415; omega) | omega)) (lv_sub hl [0, 1, 2, 3] rfl)
        · skip
          have c_102414_i := Int32.le_iff_toInt_le.mp (Int32.not_lt.mp c_102414)
          have h_102416 : (-1) ≤ (v_102413 : Int32).toInt ∧ (v_102413 : Int32).toInt ≤ 0 := nr_le_l h_v_102413 (⟨by decide, by decide⟩ : 0 ≤ (0 : Int32).toInt ∧ (0 : Int32).toInt ≤ 0) c_102414_i (by decide) (by decide)
          refine lv_aload_n hx hb dX3_countAhead_37 rfl (lv_at hl 2 rfl) ?_
          refine va_get (D := D) (ci := 3) (v := .ref ow) (C := RX3) (T := TX3) (N := 10) hx hb hts inlX3 hown hK hP 0 rfl rfl 3 (by decide) (hts (Cond.fieldLink RX3 18 "ChanceRings$Outcome" "worth" "LChanceRings$Values;") qw_652) (fun _ h9 => h9) rfl dX3_countAhead_38 ?_
          refine va_get (D := D) (ci := 10) (v := .ref ow_part) (C := RX10) (T := TX10) (N := 2) hx hb hts inlX10 hown hK hP 2 rfl rfl 0 (by decide) (hts (Cond.fieldLink RX3 99 "ChanceRings$Values" "part" "[J") qw_653) (fun _ h9 => h9) rfl dX3_countAhead_41 ?_
          refine lv_iload_n hx hb dX3_countAhead_44 rfl (lv_at hl 0 rfl) ?_
          refine va_lald hx hb hK hP 3 1 rfl rfl (tr_in h_102409 (by decide) (by decide)) dX3_countAhead_45 ?_
          refine lv_topl (fun w_102419 _ => ?_)
          refine lv_aload_n hx hb dX3_countAhead_46 rfl (lv_at hl 2 rfl) ?_
          refine va_get (D := D) (ci := 3) (v := .ref ow) (C := RX3) (T := TX3) (N := 10) hx hb hts inlX3 hown hK hP 0 rfl rfl 3 (by decide) (hts (Cond.fieldLink RX3 18 "ChanceRings$Outcome" "worth" "LChanceRings$Values;") qw_652) (fun _ h9 => h9) rfl dX3_countAhead_47 ?_
          refine va_get (D := D) (ci := 10) (v := .ref ow_part) (C := RX10) (T := TX10) (N := 2) hx hb hts inlX10 hown hK hP 2 rfl rfl 0 (by decide) (hts (Cond.fieldLink RX3 99 "ChanceRings$Values" "part" "[J") qw_653) (fun _ h9 => h9) rfl dX3_countAhead_50 ?_
          refine lv_iload_n hx hb dX3_countAhead_53 rfl (lv_at hl 3 rfl) ?_
          refine va_lald hx hb hK hP 3 1 rfl rfl (tr_in h_p0 (by decide) (by decide)) dX3_countAhead_54 ?_
          refine lv_topl (fun w_102420 _ => ?_)
          refine W.lcmp hx hb dX3_countAhead_55 ?_
          refine lv_topi (fun v_102421 v_102421_e => ?_)
          have h_v_102421 : (-1) ≤ (v_102421 : Int32).toInt ∧ (v_102421 : Int32).toInt ≤ 1 := by rw [v_102421_e]; exact tr_cmp _ _
          refine lv_if_ne (tgt := 67) hx hb dX3_countAhead_56 (by decide) (fun c_102422 => ?_) (fun c_102422 => ?_)
          · skip
            obtain ⟨v_102424, v_102424_e⟩ : ∃ y : Int32, y = x_102405 + Int32.ofInt 1 := ⟨_, rfl⟩
            have h_v_102424 : 1 ≤ (v_102424 : Int32).toInt ∧ (v_102424 : Int32).toInt ≤ 12 := by rw [v_102424_e]; exact tr_add h_102409 (⟨by decide, by decide⟩ : 1 ≤ (Int32.ofInt 1 : Int32).toInt ∧ (Int32.ofInt 1 : Int32).toInt ≤ 1) (by decide) (by decide) (by decide) (by decide)
            have q_v_102424 : v_102424.toInt = x_102405.toInt + 1 := by rw [v_102424_e]; exact tr_addE h_102409 (⟨by decide, by decide⟩ : 1 ≤ (Int32.ofInt 1 : Int32).toInt ∧ (Int32.ofInt 1 : Int32).toInt ≤ 1) (by decide) (by decide)
            refine lv_iinc (v := v_102424) (lv' := [(3, .int v_102424), (2, .int x_102406), (0, .ref oc), (1, .int p0)]) hx hb dX3_countAhead_67 hl (k := 0) rfl v_102424_e.symm (by decide) rfl (fun ls hl => ?_)
            refine lv_goto (tgt := 4) hx hb dX3_countAhead_70 (by decide) ?_
            exact ih_102407 v_102424 x_102406 ls (tr_w h_v_102424 (by decide) (by decide)) (by (first | (clear h_p0 h_orc h_ose h_v_102413 c_102414_i h_102416 h_v_102421; omega) | omega)) (lv_sub hl [0, 1, 2, 3] rfl)
          · skip
            have c_102422_i : (v_102421 : Int32).toInt = (0 : Int32).toInt := congrArg Int32.toInt c_102422
            have h_102423 : 0 ≤ (v_102421 : Int32).toInt ∧ (v_102421 : Int32).toInt ≤ 0 := nr_eq_l h_v_102421 (⟨by decide, by decide⟩ : 0 ≤ (0 : Int32).toInt ∧ (0 : Int32).toInt ≤ 0) c_102422_i (by decide) (by decide)
            refine lv_iload_n hx hb dX3_countAhead_59 rfl (lv_at hl 0 rfl) ?_
            refine lv_iload_n hx hb dX3_countAhead_60 rfl (lv_at hl 3 rfl) ?_
            refine lv_icmp_ge (tgt := 67) hx hb dX3_countAhead_61 (by decide) (fun c_102425 => ?_) (fun c_102425 => ?_)
            · skip
              obtain ⟨v_102428, v_102428_e⟩ : ∃ y : Int32, y = x_102405 + Int32.ofInt 1 := ⟨_, rfl⟩
              have h_v_102428 : 1 ≤ (v_102428 : Int32).toInt ∧ (v_102428 : Int32).toInt ≤ 12 := by rw [v_102428_e]; exact tr_add h_102409 (⟨by decide, by decide⟩ : 1 ≤ (Int32.ofInt 1 : Int32).toInt ∧ (Int32.ofInt 1 : Int32).toInt ≤ 1) (by decide) (by decide) (by decide) (by decide)
              have q_v_102428 : v_102428.toInt = x_102405.toInt + 1 := by rw [v_102428_e]; exact tr_addE h_102409 (⟨by decide, by decide⟩ : 1 ≤ (Int32.ofInt 1 : Int32).toInt ∧ (Int32.ofInt 1 : Int32).toInt ≤ 1) (by decide) (by decide)
              refine lv_iinc (v := v_102428) (lv' := [(3, .int v_102428), (2, .int x_102406), (0, .ref oc), (1, .int p0)]) hx hb dX3_countAhead_67 hl (k := 0) rfl v_102428_e.symm (by decide) rfl (fun ls hl => ?_)
              refine lv_goto (tgt := 4) hx hb dX3_countAhead_70 (by decide) ?_
              exact ih_102407 v_102428 x_102406 ls (tr_w h_v_102428 (by decide) (by decide)) (by (first | (clear h_p0 h_orc h_ose h_v_102413 c_102414_i h_102416 h_v_102421 c_102422_i h_102423; omega) | omega)) (lv_sub hl [0, 1, 2, 3] rfl)
            · skip
              have c_102425_i := Int32.lt_iff_toInt_lt.mp (Int32.not_le.mp c_102425)
              have h_102426 : 0 ≤ (x_102405 : Int32).toInt ∧ (x_102405 : Int32).toInt ≤ 10 := nr_lt_l h_102409 h_p0 c_102425_i (by decide) (by decide)
              have h_102427 : 1 ≤ (p0 : Int32).toInt ∧ (p0 : Int32).toInt ≤ 11 := nr_lt_r h_102409 h_p0 c_102425_i (by decide) (by decide)
              obtain ⟨v_102429, v_102429_e⟩ : ∃ y : Int32, y = x_102406 + Int32.ofInt 1 := ⟨_, rfl⟩
              refine lv_iinc (v := v_102429) (lv' := [(2, .int v_102429), (3, .int x_102405), (0, .ref oc), (1, .int p0)]) hx hb dX3_countAhead_64 hl (k := 1) rfl v_102429_e.symm (by decide) rfl (fun ls hl => ?_)
              obtain ⟨v_102430, v_102430_e⟩ : ∃ y : Int32, y = x_102405 + Int32.ofInt 1 := ⟨_, rfl⟩
              have h_v_102430 : 1 ≤ (v_102430 : Int32).toInt ∧ (v_102430 : Int32).toInt ≤ 11 := by rw [v_102430_e]; exact tr_add h_102426 (⟨by decide, by decide⟩ : 1 ≤ (Int32.ofInt 1 : Int32).toInt ∧ (Int32.ofInt 1 : Int32).toInt ≤ 1) (by decide) (by decide) (by decide) (by decide)
              have q_v_102430 : v_102430.toInt = x_102405.toInt + 1 := by rw [v_102430_e]; exact tr_addE h_102426 (⟨by decide, by decide⟩ : 1 ≤ (Int32.ofInt 1 : Int32).toInt ∧ (Int32.ofInt 1 : Int32).toInt ≤ 1) (by decide) (by decide)
              refine lv_iinc (v := v_102430) (lv' := [(3, .int v_102430), (2, .int v_102429), (0, .ref oc), (1, .int p0)]) hx hb dX3_countAhead_67 hl (k := 1) rfl v_102430_e.symm (by decide) rfl (fun ls hl => ?_)
              refine lv_goto (tgt := 4) hx hb dX3_countAhead_70 (by decide) ?_
              exact ih_102407 v_102430 v_102429 ls (tr_w h_v_102430 (by decide) (by decide)) (by (first | (clear h_orc h_ose h_v_102413 c_102414_i h_102416 h_v_102421 c_102422_i h_102423; omega) | omega)) (lv_sub hl [0, 1, 2, 3] rfl)
  exact lp_102407 13 0 0 ls (⟨by decide, by decide⟩ : 0 ≤ (0 : Int32).toInt ∧ (0 : Int32).toInt ≤ 12) (by decide) (lv_sub hl [0, 1, 2, 3] rfl)
set_option maxHeartbeats 4000000 in
set_option maxRecDepth 100000 in
theorem c_X3_ranked (l : Launch) (D : va_G) (g : Nat → ClassId) (oc : Nat) (p0 : Int32) (n : Nat) (sv : Nat) (oc_plan : Nat) (ow : Nat) (ol : Nat) (oc_reach : Nat) (oc_ringBits : Nat) (orc : Int32) (orn : Int32) (ose : Int32) (n_nodes : Int32) (n_kind : Nat) (n_pay : Nat) (n_name : Nat) (n_ways : Nat) (n_held : Nat) (n_targets : Nat) (n_weights : Nat) (ow_part : Nat) (oww : Int64) (owp : Nat → Int64) (h_orc : 0 ≤ (orc : Int32).toInt ∧ (orc : Int32).toInt ≤ 12) (h_ose : 0 ≤ (ose : Int32).toInt ∧ (ose : Int32).toInt ≤ 1) (h_n_nodes : 0 ≤ (n_nodes : Int32).toInt ∧ (n_nodes : Int32).toInt ≤ 12) : Met l yX3_ranked (.code yX3_ranked cX3_ranked 3 (some .int) :: wsL_law) ({ frames := 1, cells := 0, slots := 0, locals := 23 }) (va_Pc [.ref oc, .int p0] (fun U => va_P D vwCl [(wO3 oc n sv oc_plan ow ol oc_reach oc_ringBits orc orn ose), (wO2 n n_nodes n_kind n_pay n_name n_ways n_held n_targets n_weights), (wO10 ow ow_part oww), (wJ g ow_part 1 12 owp)] U.heap ∧ va_K D vwCl (TY g) U)) (vp_Si (fun r => (-1) ≤ (r : Int32).toInt ∧ (r : Int32).toInt ≤ 11)) 0 0 (fun _ => False) := by
  refine Met.ofW (cc := cX3_ranked) (maxL := 3) (ret := (some .int)) (by decide) rfl ?_
  intro p e s m args below meth c s₁ B hml hv
  obtain ⟨ha, hP, hK⟩ := hv
  have hx := B.exec
  have hb := B.bytes
  have hr := B.returns
  have hts0 := atoms_spec (ws := (.code yX3_ranked cX3_ranked 3 (some .int) :: wsL_law)) B.pre
  have hts : ∀ w ∈ wsL_law, w.before args s = true := fun w h => hts0 w (List.mem_cons_of_mem _ h)
  have hown : s.vm.findClass RX3 = some m.cls := findClass_of_methodNamed B.named
  have hlocks := B.notSynchronized
  have hP : va_P D vwCl [(wO3 oc n sv oc_plan ow ol oc_reach oc_ringBits orc orn ose), (wO2 n n_nodes n_kind n_pay n_name n_ways n_held n_targets n_weights), (wO10 ow ow_part oww), (wJ g ow_part 1 12 owp)] s.heap := hP
  refine W.eq (g2 := entryFrame m ([.ref oc, .int p0] : List Value).toArray 3) (by rw [ha]) ?_
  have hl := lv_entry ([.ref oc, .int p0]) (n := 3) (Nat.le_of_ble_eq_true rfl)
  rw [lg_entry_eq]
  generalize (lg_sl ([.ref oc, .int p0]) ++ List.replicate (3 - (lg_sl ([.ref oc, .int p0])).length) Slot.unset).toArray = ls at hl ⊢
  have hl : lv_has ls 3 [(0, .ref oc), (1, .int p0)] := hl
  refine lv_iconst (v := 0) hx hb dX3_ranked_0 (by decide) ?_
  refine lv_istore_n (lv' := [(2, .int 0), (0, .ref oc), (1, .int p0)]) hx hb dX3_ranked_1 rfl hl (by decide) rfl (fun ls hl => ?_)
  have lp_102486 : ∀ (n_102486 : Nat) (x_102485 : Int32) (ls : Array Slot), (0 ≤ (x_102485 : Int32).toInt ∧ (x_102485 : Int32).toInt ≤ 12) → (12 - x_102485.toInt < (n_102486 : Int)) → lv_has ls 3 [(2, .int x_102485), (0, .ref oc), (1, .int p0)] → W p l e (headSpec (.code yX3_ranked cX3_ranked 3 (some .int) :: wsL_law) ({ frames := 1, cells := 0, slots := 0, locals := 23 })).room s m args below meth c s.heap [] 0 0 (MQ below (vp_Si (fun r => (-1) ≤ (r : Int32).toInt ∧ (r : Int32).toInt ≤ 11)) args s 0 0 (fun _ => False)) (F0 m 2 ls []) := by
    intro n_102486
    induction n_102486 with
    | zero =>
      intro x_102485 ls h_x_102485 hm_102486 hl
      exfalso; omega
    | succ n_102486 ih_102486 =>
      intro x_102485 ls h_x_102485 hm_102486 hl
      refine lv_iload_n hx hb dX3_ranked_2 rfl (lv_at hl 0 rfl) ?_
      refine lv_aload_n hx hb dX3_ranked_3 rfl (lv_at hl 1 rfl) ?_
      refine va_get (D := D) (ci := 3) (v := .ref n) (C := RX3) (T := TX3) (N := 10) hx hb hts inlX3 hown hK hP 0 rfl rfl 0 (by decide) (hts (Cond.fieldLink RX3 31 "ChanceRings$Outcome" "net" "LChanceRings$Net;") qw_636) (fun _ h9 => h9) rfl dX3_ranked_4 ?_
      refine va_get (D := D) (ci := 2) (v := .int n_nodes) (C := RX2) (T := TX2) (N := 8) hx hb hts inlX2 hown hK hP 1 rfl rfl 0 (by decide) (hts (Cond.fieldLink RX3 63 "ChanceRings$Net" "nodes" "I") qw_637) (fun _ h9 => h9) rfl dX3_ranked_7 ?_
      refine lv_icmp_ge (tgt := 30) hx hb dX3_ranked_10 (by decide) (fun c_102487 => ?_) (fun c_102487 => ?_)
      · skip
        refine lv_iconst (v := (-1)) hx hb dX3_ranked_30 (by decide) ?_
        exact W.iret (v := (-1)) hx hb hr (fun t ht hW => ⟨(-1), rfl, (⟨by decide, by decide⟩ : (-1) ≤ ((-1) : Int32).toInt ∧ ((-1) : Int32).toInt ≤ 11), ht⟩) (fun _ h => nomatch h) dX3_ranked_31
      · skip
        have c_102487_i := Int32.lt_iff_toInt_lt.mp (Int32.not_le.mp c_102487)
        have h_102488 : 0 ≤ (x_102485 : Int32).toInt ∧ (x_102485 : Int32).toInt ≤ 11 := nr_lt_l h_x_102485 h_n_nodes c_102487_i (by decide) (by decide)
        have h_102489 : 1 ≤ (n_nodes : Int32).toInt ∧ (n_nodes : Int32).toInt ≤ 12 := nr_lt_r h_x_102485 h_n_nodes c_102487_i (by decide) (by decide)
        refine lv_aload_n hx hb dX3_ranked_13 rfl (lv_at hl 1 rfl) ?_
        refine lv_iload_n hx hb dX3_ranked_14 rfl (lv_at hl 0 rfl) ?_
        have hPc := hP.sub (ws' := [(wO3 oc n sv oc_plan ow ol oc_reach oc_ringBits orc orn ose), (wO2 n n_nodes n_kind n_pay n_name n_ways n_held n_targets n_weights), (wO10 ow ow_part oww), (wJ g ow_part 1 12 owp)]) [0, 1, 2, 3] rfl
        refine vp_callSi (va_Run.run (va_runV (As := [.int x_102485]) (rest := []) ⟨hx, hb, hml, hown, hts⟩ (c_X3_countAhead l D g oc x_102485 n sv oc_plan ow ol oc_reach oc_ringBits orc orn ose n_nodes n_kind n_pay n_name n_ways n_held n_targets n_weights ow_part oww owp (tr_w h_102488 (by decide) (by decide)) (tr_w h_orc (by decide) (by decide)) (tr_w h_ose (by decide) (by decide)) (tr_w h_102489 (by decide) (by decide))) (cwV 1 hts (tz_gV qw_654 qw_655 qw_656 qw_649 qw_657) rfl rfl rfl (by decide +kernel) ⟨Nat.le_of_ble_eq_true rfl, Nat.le_of_ble_eq_true rfl⟩) ⟨tz_blS, va_recv hK hPc (ci := 3) (q0 := 0) rfl rfl, tz_preS hPc hK⟩ rfl rfl hl.1 rfl (lv_room (Nat.le_of_ble_eq_true rfl)) dX3_ranked_15 ⟨Nat.le_of_ble_eq_true rfl, Nat.le_of_ble_eq_true rfl⟩)) (fun r_102490 hw => ?_)
        refine lv_iload_n hx hb dX3_ranked_18 rfl (lv_at hl 2 rfl) ?_
        refine lv_icmp_ne (tgt := 24) hx hb dX3_ranked_19 (by decide) (fun c_102491 => ?_) (fun c_102491 => ?_)
        · skip
          obtain ⟨v_102492, v_102492_e⟩ : ∃ y : Int32, y = x_102485 + Int32.ofInt 1 := ⟨_, rfl⟩
          have h_v_102492 : 1 ≤ (v_102492 : Int32).toInt ∧ (v_102492 : Int32).toInt ≤ 12 := by rw [v_102492_e]; exact tr_add h_102488 (⟨by decide, by decide⟩ : 1 ≤ (Int32.ofInt 1 : Int32).toInt ∧ (Int32.ofInt 1 : Int32).toInt ≤ 1) (by decide) (by decide) (by decide) (by decide)
          have q_v_102492 : v_102492.toInt = x_102485.toInt + 1 := by rw [v_102492_e]; exact tr_addE h_102488 (⟨by decide, by decide⟩ : 1 ≤ (Int32.ofInt 1 : Int32).toInt ∧ (Int32.ofInt 1 : Int32).toInt ≤ 1) (by decide) (by decide)
          refine lv_iinc (v := v_102492) (lv' := [(2, .int v_102492), (0, .ref oc), (1, .int p0)]) hx hb dX3_ranked_24 hl (k := 0) rfl v_102492_e.symm (by decide) rfl (fun ls hl => ?_)
          refine lv_goto (tgt := 2) hx hb dX3_ranked_27 (by decide) ?_
          exact ih_102486 v_102492 ls (tr_w h_v_102492 (by decide) (by decide)) (by omega) (lv_sub hl [0, 1, 2] rfl)
        · skip
          refine lv_iload_n hx hb dX3_ranked_22 rfl (lv_at hl 0 rfl) ?_
          exact W.iret (v := x_102485) hx hb hr (fun t ht hW => ⟨x_102485, rfl, (tr_w h_102488 (by decide) (by decide)), ht⟩) (fun _ h => nomatch h) dX3_ranked_23
  exact lp_102486 13 0 ls (⟨by decide, by decide⟩ : 0 ≤ (0 : Int32).toInt ∧ (0 : Int32).toInt ≤ 12) (by decide) (lv_sub hl [0, 1, 2] rfl)
set_option maxHeartbeats 4000000 in
set_option maxRecDepth 100000 in
theorem c_X3_drawnWay (l : Launch) (D : va_G) (g : Nat → ClassId) (oc : Nat) (p0 : Int32) (p1 : Int32) (n : Nat) (sv : Nat) (oc_plan : Nat) (ow : Nat) (ol : Nat) (oc_reach : Nat) (oc_ringBits : Nat) (orc : Int32) (orn : Int32) (ose : Int32) (n_nodes : Int32) (n_kind : Nat) (n_pay : Nat) (n_name : Nat) (n_ways : Nat) (n_held : Nat) (n_targets : Nat) (n_weights : Nat) (n_fkind : Nat → Int32) (n_fways : Nat → Int32) (n_fweights : Nat → Int32) (h_p0 : 0 ≤ (p0 : Int32).toInt ∧ (p0 : Int32).toInt ≤ 11) (h_orc : 0 ≤ (orc : Int32).toInt ∧ (orc : Int32).toInt ≤ 12) (h_ose : 0 ≤ (ose : Int32).toInt ∧ (ose : Int32).toInt ≤ 1) (h_n_nodes : 0 ≤ (n_nodes : Int32).toInt ∧ (n_nodes : Int32).toInt ≤ 12) (h_n_fkind : ∀ j : Nat, 0 ≤ (n_fkind j).toInt ∧ (n_fkind j).toInt ≤ 3) (h_n_fways : ∀ j : Nat, 0 ≤ (n_fways j).toInt ∧ (n_fways j).toInt ≤ 3) : Met l yX3_drawnWay (.code yX3_drawnWay cX3_drawnWay 7 (some .int) :: wsL_law) ({ frames := 1, cells := 0, slots := 0, locals := 23 }) (va_Pc [.ref oc, .int p0, .int p1] (fun U => va_P D vwCl [(wO3 oc n sv oc_plan ow ol oc_reach oc_ringBits orc orn ose), (wO2 n n_nodes n_kind n_pay n_name n_ways n_held n_targets n_weights), (wI g n_kind 0 12 n_fkind), (wI g n_ways 0 12 n_fways), (wI g n_weights 0 36 n_fweights)] U.heap ∧ va_K D vwCl (TY g) U)) (vp_Si (fun r => 0 ≤ (r : Int32).toInt ∧ (r : Int32).toInt ≤ 2)) 0 0 (fun _ => False) := by
  refine Met.ofW (cc := cX3_drawnWay) (maxL := 7) (ret := (some .int)) (by decide) rfl ?_
  intro p e s m args below meth c s₁ B hml hv
  obtain ⟨ha, hP, hK⟩ := hv
  have hx := B.exec
  have hb := B.bytes
  have hr := B.returns
  have hts0 := atoms_spec (ws := (.code yX3_drawnWay cX3_drawnWay 7 (some .int) :: wsL_law)) B.pre
  have hts : ∀ w ∈ wsL_law, w.before args s = true := fun w h => hts0 w (List.mem_cons_of_mem _ h)
  have hown : s.vm.findClass RX3 = some m.cls := findClass_of_methodNamed B.named
  have hlocks := B.notSynchronized
  have hP : va_P D vwCl [(wO3 oc n sv oc_plan ow ol oc_reach oc_ringBits orc orn ose), (wO2 n n_nodes n_kind n_pay n_name n_ways n_held n_targets n_weights), (wI g n_kind 0 12 n_fkind), (wI g n_ways 0 12 n_fways), (wI g n_weights 0 36 n_fweights)] s.heap := hP
  refine W.eq (g2 := entryFrame m ([.ref oc, .int p0, .int p1] : List Value).toArray 7) (by rw [ha]) ?_
  have hl := lv_entry ([.ref oc, .int p0, .int p1]) (n := 7) (Nat.le_of_ble_eq_true rfl)
  rw [lg_entry_eq]
  generalize (lg_sl ([.ref oc, .int p0, .int p1]) ++ List.replicate (7 - (lg_sl ([.ref oc, .int p0, .int p1])).length) Slot.unset).toArray = ls at hl ⊢
  have hl : lv_has ls 7 [(0, .ref oc), (1, .int p0), (2, .int p1)] := hl
  refine lv_aload_n hx hb dX3_drawnWay_0 rfl (lv_at hl 0 rfl) ?_
  refine va_get (D := D) (ci := 3) (v := .ref n) (C := RX3) (T := TX3) (N := 10) hx hb hts inlX3 hown hK hP 0 rfl rfl 0 (by decide) (hts (Cond.fieldLink RX3 31 "ChanceRings$Outcome" "net" "LChanceRings$Net;") qw_636) (fun _ h9 => h9) rfl dX3_drawnWay_1 ?_
  refine lv_iload_n hx hb dX3_drawnWay_4 rfl (lv_at hl 1 rfl) ?_
  have hPc := hP.sub (ws' := [(wO2 n n_nodes n_kind n_pay n_name n_ways n_held n_targets n_weights), (wI g n_kind 0 12 n_fkind), (wI g n_ways 0 12 n_fways), (wI g n_weights 0 36 n_fweights)]) [1, 2, 3, 4] rfl
  refine vp_callSi (va_Run.run (va_runV (As := [.int p0]) (rest := []) ⟨hx, hb, hml, hown, hts⟩ (c_X2_together l D g n p0 n_nodes n_kind n_pay n_name n_ways n_held n_targets n_weights n_fkind n_fways n_fweights (tr_w h_p0 (by decide) (by decide)) (tr_w h_n_nodes (by decide) (by decide)) (tr_wa h_n_fkind (by decide) (by decide)) (tr_wa h_n_fways (by decide) (by decide))) (cwV 1 hts (tz_gV qw_658 qw_445 qw_446 qw_322 qw_447) rfl rfl rfl (by decide +kernel) ⟨Nat.le_of_ble_eq_true rfl, Nat.le_of_ble_eq_true rfl⟩) ⟨tz_blS, va_recv hK hPc (ci := 2) (q0 := 0) rfl rfl, tz_preS hPc hK⟩ rfl rfl hl.1 rfl (lv_room (Nat.le_of_ble_eq_true rfl)) dX3_drawnWay_5 ⟨Nat.le_of_ble_eq_true rfl, Nat.le_of_ble_eq_true rfl⟩)) (fun r_102493 hw => ?_)
  refine lv_istore_n (lv' := [(3, .int r_102493), (0, .ref oc), (1, .int p0), (2, .int p1)]) hx hb dX3_drawnWay_8 rfl hl (by decide) rfl (fun ls hl => ?_)
  refine lv_iload_n hx hb dX3_drawnWay_9 rfl (lv_at hl 0 rfl) ?_
  refine lv_if_ne (tgt := 17) hx hb dX3_drawnWay_10 (by decide) (fun c_102494 => ?_) (fun c_102494 => ?_)
  · skip
    refine lv_iload_n hx hb dX3_drawnWay_17 rfl (lv_at hl 3 rfl) ?_
    refine lv_iload_n hx hb dX3_drawnWay_18 rfl (lv_at hl 0 rfl) ?_
    refine lv_irem hx hb dX3_drawnWay_19 c_102494 ?_
    refine lv_topi (fun v_102496 v_102496_e => ?_)
    refine lv_istore (lv' := [(4, .int v_102496), (3, .int r_102493), (0, .ref oc), (1, .int p0), (2, .int p1)]) hx hb dX3_drawnWay_20 hl (by decide) rfl (fun ls hl => ?_)
    refine lv_iconst (v := 0) hx hb dX3_drawnWay_22 (by decide) ?_
    refine lv_istore (lv' := [(5, .int 0), (4, .int v_102496), (3, .int r_102493), (0, .ref oc), (1, .int p0), (2, .int p1)]) hx hb dX3_drawnWay_23 hl (by decide) rfl (fun ls hl => ?_)
    refine lv_iconst (v := 0) hx hb dX3_drawnWay_25 (by decide) ?_
    refine lv_istore (lv' := [(6, .int 0), (5, .int 0), (4, .int v_102496), (3, .int r_102493), (0, .ref oc), (1, .int p0), (2, .int p1)]) hx hb dX3_drawnWay_26 hl (by decide) rfl (fun ls hl => ?_)
    have lp_102536 : ∀ (n_102536 : Nat) (x_102534 : Int32) (x_102535 : Int32) (ls : Array Slot), (0 ≤ (x_102534 : Int32).toInt ∧ (x_102534 : Int32).toInt ≤ 3) → (3 - x_102534.toInt < (n_102536 : Int)) → lv_has ls 7 [(6, .int x_102534), (5, .int x_102535), (4, .int v_102496), (3, .int r_102493), (0, .ref oc), (1, .int p0), (2, .int p1)] → W p l e (headSpec (.code yX3_drawnWay cX3_drawnWay 7 (some .int) :: wsL_law) ({ frames := 1, cells := 0, slots := 0, locals := 23 })).room s m args below meth c s.heap [] 0 0 (MQ below (vp_Si (fun r => 0 ≤ (r : Int32).toInt ∧ (r : Int32).toInt ≤ 2)) args s 0 0 (fun _ => False)) (F0 m 28 ls []) := by
      intro n_102536
      induction n_102536 with
      | zero =>
        intro x_102534 x_102535 ls h_x_102534 hm_102536 hl
        exfalso; omega
      | succ n_102536 ih_102536 =>
        intro x_102534 x_102535 ls h_x_102534 hm_102536 hl
        refine lv_iload hx hb dX3_drawnWay_28 (lv_at hl 0 rfl) ?_
        refine lv_aload_n hx hb dX3_drawnWay_30 rfl (lv_at hl 4 rfl) ?_
        refine va_get (D := D) (ci := 3) (v := .ref n) (C := RX3) (T := TX3) (N := 10) hx hb hts inlX3 hown hK hP 0 rfl rfl 0 (by decide) (hts (Cond.fieldLink RX3 31 "ChanceRings$Outcome" "net" "LChanceRings$Net;") qw_636) (fun _ h9 => h9) rfl dX3_drawnWay_31 ?_
        refine va_get (D := D) (ci := 2) (v := .ref n_ways) (C := RX2) (T := TX2) (N := 8) hx hb hts inlX2 hown hK hP 1 rfl rfl 4 (by decide) (hts (Cond.fieldLink RX3 118 "ChanceRings$Net" "ways" "[I") qw_659) (fun _ h9 => h9) rfl dX3_drawnWay_34 ?_
        refine lv_iload_n hx hb dX3_drawnWay_37 rfl (lv_at hl 5 rfl) ?_
        refine va_iald hx hb hK hP 3 0 rfl rfl (tr_in h_p0 (by decide) (by decide)) dX3_drawnWay_38 ?_
        refine lv_topi (fun v_102537 v_102537_e => ?_)
        have h_v_102537 : 0 ≤ (v_102537 : Int32).toInt ∧ (v_102537 : Int32).toInt ≤ 3 := by rw [v_102537_e]; exact h_n_fways _
        refine lv_icmp_ge (tgt := 73) hx hb dX3_drawnWay_39 (by decide) (fun c_102538 => ?_) (fun c_102538 => ?_)
        · skip
          refine lv_iconst (v := 0) hx hb dX3_drawnWay_73 (by decide) ?_
          exact W.iret (v := 0) hx hb hr (fun t ht hW => ⟨0, rfl, (⟨by decide, by decide⟩ : 0 ≤ (0 : Int32).toInt ∧ (0 : Int32).toInt ≤ 2), ht⟩) (fun _ h => nomatch h) dX3_drawnWay_74
        · skip
          have c_102538_i := Int32.lt_iff_toInt_lt.mp (Int32.not_le.mp c_102538)
          have h_102539 : 0 ≤ (x_102534 : Int32).toInt ∧ (x_102534 : Int32).toInt ≤ 2 := nr_lt_l h_x_102534 h_v_102537 c_102538_i (by decide) (by decide)
          have h_102540 : 1 ≤ (v_102537 : Int32).toInt ∧ (v_102537 : Int32).toInt ≤ 3 := nr_lt_r h_x_102534 h_v_102537 c_102538_i (by decide) (by decide)
          refine lv_iload hx hb dX3_drawnWay_42 (lv_at hl 1 rfl) ?_
          refine lv_aload_n hx hb dX3_drawnWay_44 rfl (lv_at hl 4 rfl) ?_
          refine va_get (D := D) (ci := 3) (v := .ref n) (C := RX3) (T := TX3) (N := 10) hx hb hts inlX3 hown hK hP 0 rfl rfl 0 (by decide) (hts (Cond.fieldLink RX3 31 "ChanceRings$Outcome" "net" "LChanceRings$Net;") qw_636) (fun _ h9 => h9) rfl dX3_drawnWay_45 ?_
          refine lv_iload_n hx hb dX3_drawnWay_48 rfl (lv_at hl 5 rfl) ?_
          refine lv_iload hx hb dX3_drawnWay_49 (lv_at hl 0 rfl) ?_
          have hPc := hP.sub (ws' := [(wO2 n n_nodes n_kind n_pay n_name n_ways n_held n_targets n_weights), (wI g n_weights 0 36 n_fweights)]) [1, 4] rfl
          refine vp_callSi (va_Run.run (va_runV (As := [.int p0, .int x_102534]) (rest := [.int x_102535]) ⟨hx, hb, hml, hown, hts⟩ (c_X2_weight l D g n p0 x_102534 n_nodes n_kind n_pay n_name n_ways n_held n_targets n_weights n_fweights (tr_w h_p0 (by decide) (by decide)) (tr_w h_102539 (by decide) (by decide)) (tr_w h_n_nodes (by decide) (by decide))) (cwV 2 hts (tz_gV qw_660 qw_375 qw_376 qw_322 qw_377) rfl rfl rfl (by decide +kernel) ⟨Nat.le_of_ble_eq_true rfl, Nat.le_of_ble_eq_true rfl⟩) ⟨tz_blS, va_recv hK hPc (ci := 2) (q0 := 0) rfl rfl, tz_preS hPc hK⟩ rfl rfl hl.1 rfl (lv_room (Nat.le_of_ble_eq_true rfl)) dX3_drawnWay_51 ⟨Nat.le_of_ble_eq_true rfl, Nat.le_of_ble_eq_true rfl⟩)) (fun r_102541 hw => ?_)
          refine lv_iadd hx hb dX3_drawnWay_54 ?_
          refine lv_topi (fun v_102542 v_102542_e => ?_)
          refine lv_istore (lv' := [(5, .int v_102542), (6, .int x_102534), (4, .int v_102496), (3, .int r_102493), (0, .ref oc), (1, .int p0), (2, .int p1)]) hx hb dX3_drawnWay_55 hl (by decide) rfl (fun ls hl => ?_)
          refine lv_iload hx hb dX3_drawnWay_57 (lv_at hl 0 rfl) ?_
          refine lv_iload hx hb dX3_drawnWay_59 (lv_at hl 2 rfl) ?_
          refine lv_icmp_le (tgt := 67) hx hb dX3_drawnWay_61 (by decide) (fun c_102543 => ?_) (fun c_102543 => ?_)
          · skip
            obtain ⟨v_102544, v_102544_e⟩ : ∃ y : Int32, y = x_102534 + Int32.ofInt 1 := ⟨_, rfl⟩
            have h_v_102544 : 1 ≤ (v_102544 : Int32).toInt ∧ (v_102544 : Int32).toInt ≤ 3 := by rw [v_102544_e]; exact tr_add h_102539 (⟨by decide, by decide⟩ : 1 ≤ (Int32.ofInt 1 : Int32).toInt ∧ (Int32.ofInt 1 : Int32).toInt ≤ 1) (by decide) (by decide) (by decide) (by decide)
            have q_v_102544 : v_102544.toInt = x_102534.toInt + 1 := by rw [v_102544_e]; exact tr_addE h_102539 (⟨by decide, by decide⟩ : 1 ≤ (Int32.ofInt 1 : Int32).toInt ∧ (Int32.ofInt 1 : Int32).toInt ≤ 1) (by decide) (by decide)
            refine lv_iinc (v := v_102544) (lv' := [(6, .int v_102544), (5, .int v_102542), (4, .int v_102496), (3, .int r_102493), (0, .ref oc), (1, .int p0), (2, .int p1)]) hx hb dX3_drawnWay_67 hl (k := 1) rfl v_102544_e.symm (by decide) rfl (fun ls hl => ?_)
            refine lv_goto (tgt := 28) hx hb dX3_drawnWay_70 (by decide) ?_
            exact ih_102536 v_102544 v_102542 ls (tr_w h_v_102544 (by decide) (by decide)) (by (first | (clear h_p0 h_orc h_ose h_n_nodes; omega) | omega)) (lv_sub hl [0, 1, 2, 3, 4, 5, 6] rfl)
          · skip
            refine lv_iload hx hb dX3_drawnWay_64 (lv_at hl 1 rfl) ?_
            exact W.iret (v := x_102534) hx hb hr (fun t ht hW => ⟨x_102534, rfl, (tr_w h_102539 (by decide) (by decide)), ht⟩) (fun _ h => nomatch h) dX3_drawnWay_66
    exact lp_102536 4 0 0 ls (⟨by decide, by decide⟩ : 0 ≤ (0 : Int32).toInt ∧ (0 : Int32).toInt ≤ 3) (by decide) (lv_sub hl [0, 1, 2, 3, 4, 5, 6] rfl)
  · skip
    have h_102495 : 0 ≤ (r_102493 : Int32).toInt ∧ (r_102493 : Int32).toInt ≤ 0 := by rw [c_102494]; exact ⟨by decide, by decide⟩
    refine lv_iconst (v := 0) hx hb dX3_drawnWay_13 (by decide) ?_
    refine lv_goto (tgt := 20) hx hb dX3_drawnWay_14 (by decide) ?_
    refine lv_istore (lv' := [(4, .int 0), (3, .int r_102493), (0, .ref oc), (1, .int p0), (2, .int p1)]) hx hb dX3_drawnWay_20 hl (by decide) rfl (fun ls hl => ?_)
    refine lv_iconst (v := 0) hx hb dX3_drawnWay_22 (by decide) ?_
    refine lv_istore (lv' := [(5, .int 0), (4, .int 0), (3, .int r_102493), (0, .ref oc), (1, .int p0), (2, .int p1)]) hx hb dX3_drawnWay_23 hl (by decide) rfl (fun ls hl => ?_)
    refine lv_iconst (v := 0) hx hb dX3_drawnWay_25 (by decide) ?_
    refine lv_istore (lv' := [(6, .int 0), (5, .int 0), (4, .int 0), (3, .int r_102493), (0, .ref oc), (1, .int p0), (2, .int p1)]) hx hb dX3_drawnWay_26 hl (by decide) rfl (fun ls hl => ?_)
    have lp_102592 : ∀ (n_102592 : Nat) (x_102590 : Int32) (x_102591 : Int32) (ls : Array Slot), (0 ≤ (x_102590 : Int32).toInt ∧ (x_102590 : Int32).toInt ≤ 3) → ((-2147483648) ≤ (x_102591 : Int32).toInt ∧ (x_102591 : Int32).toInt ≤ 0) → (3 - x_102590.toInt < (n_102592 : Int)) → lv_has ls 7 [(6, .int x_102590), (5, .int x_102591), (4, .int 0), (3, .int r_102493), (0, .ref oc), (1, .int p0), (2, .int p1)] → W p l e (headSpec (.code yX3_drawnWay cX3_drawnWay 7 (some .int) :: wsL_law) ({ frames := 1, cells := 0, slots := 0, locals := 23 })).room s m args below meth c s.heap [] 0 0 (MQ below (vp_Si (fun r => 0 ≤ (r : Int32).toInt ∧ (r : Int32).toInt ≤ 2)) args s 0 0 (fun _ => False)) (F0 m 28 ls []) := by
      intro n_102592
      induction n_102592 with
      | zero =>
        intro x_102590 x_102591 ls h_x_102590 h_x_102591 hm_102592 hl
        exfalso; omega
      | succ n_102592 ih_102592 =>
        intro x_102590 x_102591 ls h_x_102590 h_x_102591 hm_102592 hl
        refine lv_iload hx hb dX3_drawnWay_28 (lv_at hl 0 rfl) ?_
        refine lv_aload_n hx hb dX3_drawnWay_30 rfl (lv_at hl 4 rfl) ?_
        refine va_get (D := D) (ci := 3) (v := .ref n) (C := RX3) (T := TX3) (N := 10) hx hb hts inlX3 hown hK hP 0 rfl rfl 0 (by decide) (hts (Cond.fieldLink RX3 31 "ChanceRings$Outcome" "net" "LChanceRings$Net;") qw_636) (fun _ h9 => h9) rfl dX3_drawnWay_31 ?_
        refine va_get (D := D) (ci := 2) (v := .ref n_ways) (C := RX2) (T := TX2) (N := 8) hx hb hts inlX2 hown hK hP 1 rfl rfl 4 (by decide) (hts (Cond.fieldLink RX3 118 "ChanceRings$Net" "ways" "[I") qw_659) (fun _ h9 => h9) rfl dX3_drawnWay_34 ?_
        refine lv_iload_n hx hb dX3_drawnWay_37 rfl (lv_at hl 5 rfl) ?_
        refine va_iald hx hb hK hP 3 0 rfl rfl (tr_in h_p0 (by decide) (by decide)) dX3_drawnWay_38 ?_
        refine lv_topi (fun v_102593 v_102593_e => ?_)
        have h_v_102593 : 0 ≤ (v_102593 : Int32).toInt ∧ (v_102593 : Int32).toInt ≤ 3 := by rw [v_102593_e]; exact h_n_fways _
        refine lv_icmp_ge (tgt := 73) hx hb dX3_drawnWay_39 (by decide) (fun c_102594 => ?_) (fun c_102594 => ?_)
        · skip
          refine lv_iconst (v := 0) hx hb dX3_drawnWay_73 (by decide) ?_
          exact W.iret (v := 0) hx hb hr (fun t ht hW => ⟨0, rfl, (⟨by decide, by decide⟩ : 0 ≤ (0 : Int32).toInt ∧ (0 : Int32).toInt ≤ 2), ht⟩) (fun _ h => nomatch h) dX3_drawnWay_74
        · skip
          have c_102594_i := Int32.lt_iff_toInt_lt.mp (Int32.not_le.mp c_102594)
          have h_102595 : 0 ≤ (x_102590 : Int32).toInt ∧ (x_102590 : Int32).toInt ≤ 2 := nr_lt_l h_x_102590 h_v_102593 c_102594_i (by decide) (by decide)
          have h_102596 : 1 ≤ (v_102593 : Int32).toInt ∧ (v_102593 : Int32).toInt ≤ 3 := nr_lt_r h_x_102590 h_v_102593 c_102594_i (by decide) (by decide)
          refine lv_iload hx hb dX3_drawnWay_42 (lv_at hl 1 rfl) ?_
          refine lv_aload_n hx hb dX3_drawnWay_44 rfl (lv_at hl 4 rfl) ?_
          refine va_get (D := D) (ci := 3) (v := .ref n) (C := RX3) (T := TX3) (N := 10) hx hb hts inlX3 hown hK hP 0 rfl rfl 0 (by decide) (hts (Cond.fieldLink RX3 31 "ChanceRings$Outcome" "net" "LChanceRings$Net;") qw_636) (fun _ h9 => h9) rfl dX3_drawnWay_45 ?_
          refine lv_iload_n hx hb dX3_drawnWay_48 rfl (lv_at hl 5 rfl) ?_
          refine lv_iload hx hb dX3_drawnWay_49 (lv_at hl 0 rfl) ?_
          have hPc := hP.sub (ws' := [(wO2 n n_nodes n_kind n_pay n_name n_ways n_held n_targets n_weights), (wI g n_weights 0 36 n_fweights)]) [1, 4] rfl
          refine vp_callSi (va_Run.run (va_runV (As := [.int p0, .int x_102590]) (rest := [.int x_102591]) ⟨hx, hb, hml, hown, hts⟩ (c_X2_weight l D g n p0 x_102590 n_nodes n_kind n_pay n_name n_ways n_held n_targets n_weights n_fweights (tr_w h_p0 (by decide) (by decide)) (tr_w h_102595 (by decide) (by decide)) (tr_w h_n_nodes (by decide) (by decide))) (cwV 2 hts (tz_gV qw_660 qw_375 qw_376 qw_322 qw_377) rfl rfl rfl (by decide +kernel) ⟨Nat.le_of_ble_eq_true rfl, Nat.le_of_ble_eq_true rfl⟩) ⟨tz_blS, va_recv hK hPc (ci := 2) (q0 := 0) rfl rfl, tz_preS hPc hK⟩ rfl rfl hl.1 rfl (lv_room (Nat.le_of_ble_eq_true rfl)) dX3_drawnWay_51 ⟨Nat.le_of_ble_eq_true rfl, Nat.le_of_ble_eq_true rfl⟩)) (fun r_102597 hw => ?_)
          refine lv_iadd hx hb dX3_drawnWay_54 ?_
          refine lv_topi (fun v_102598 v_102598_e => ?_)
          refine lv_istore (lv' := [(5, .int v_102598), (6, .int x_102590), (4, .int 0), (3, .int r_102493), (0, .ref oc), (1, .int p0), (2, .int p1)]) hx hb dX3_drawnWay_55 hl (by decide) rfl (fun ls hl => ?_)
          refine lv_iload hx hb dX3_drawnWay_57 (lv_at hl 0 rfl) ?_
          refine lv_iload hx hb dX3_drawnWay_59 (lv_at hl 2 rfl) ?_
          refine lv_icmp_le (tgt := 67) hx hb dX3_drawnWay_61 (by decide) (fun c_102599 => ?_) (fun c_102599 => ?_)
          · skip
            have c_102599_i := Int32.le_iff_toInt_le.mp c_102599
            have h_102600 : (-2147483648) ≤ (v_102598 : Int32).toInt ∧ (v_102598 : Int32).toInt ≤ 0 := nr_le_l (tr_any v_102598) (⟨by decide, by decide⟩ : 0 ≤ (0 : Int32).toInt ∧ (0 : Int32).toInt ≤ 0) c_102599_i (by decide) (by decide)
            obtain ⟨v_102602, v_102602_e⟩ : ∃ y : Int32, y = x_102590 + Int32.ofInt 1 := ⟨_, rfl⟩
            have h_v_102602 : 1 ≤ (v_102602 : Int32).toInt ∧ (v_102602 : Int32).toInt ≤ 3 := by rw [v_102602_e]; exact tr_add h_102595 (⟨by decide, by decide⟩ : 1 ≤ (Int32.ofInt 1 : Int32).toInt ∧ (Int32.ofInt 1 : Int32).toInt ≤ 1) (by decide) (by decide) (by decide) (by decide)
            have q_v_102602 : v_102602.toInt = x_102590.toInt + 1 := by rw [v_102602_e]; exact tr_addE h_102595 (⟨by decide, by decide⟩ : 1 ≤ (Int32.ofInt 1 : Int32).toInt ∧ (Int32.ofInt 1 : Int32).toInt ≤ 1) (by decide) (by decide)
            refine lv_iinc (v := v_102602) (lv' := [(6, .int v_102602), (5, .int v_102598), (4, .int 0), (3, .int r_102493), (0, .ref oc), (1, .int p0), (2, .int p1)]) hx hb dX3_drawnWay_67 hl (k := 1) rfl v_102602_e.symm (by decide) rfl (fun ls hl => ?_)
            refine lv_goto (tgt := 28) hx hb dX3_drawnWay_70 (by decide) ?_
            exact ih_102592 v_102602 v_102598 ls (tr_w h_v_102602 (by decide) (by decide)) (tr_w h_102600 (by decide) (by decide)) (by (first | (clear h_p0 h_orc h_ose h_n_nodes h_102495 h_x_102591; omega) | omega)) (lv_sub hl [0, 1, 2, 3, 4, 5, 6] rfl)
          · skip
            have c_102599_i := Int32.lt_iff_toInt_lt.mp (Int32.not_le.mp c_102599)
            have h_102601 : 1 ≤ (v_102598 : Int32).toInt ∧ (v_102598 : Int32).toInt ≤ 2147483647 := nr_lt_r (⟨by decide, by decide⟩ : 0 ≤ (0 : Int32).toInt ∧ (0 : Int32).toInt ≤ 0) (tr_any v_102598) c_102599_i (by decide) (by decide)
            refine lv_iload hx hb dX3_drawnWay_64 (lv_at hl 1 rfl) ?_
            exact W.iret (v := x_102590) hx hb hr (fun t ht hW => ⟨x_102590, rfl, (tr_w h_102595 (by decide) (by decide)), ht⟩) (fun _ h => nomatch h) dX3_drawnWay_66
    exact lp_102592 4 0 0 ls (⟨by decide, by decide⟩ : 0 ≤ (0 : Int32).toInt ∧ (0 : Int32).toInt ≤ 3) (⟨by decide, by decide⟩ : (-2147483648) ≤ (0 : Int32).toInt ∧ (0 : Int32).toInt ≤ 0) (by decide) (lv_sub hl [0, 1, 2, 3, 4, 5, 6] rfl)
set_option maxHeartbeats 4000000 in
set_option maxRecDepth 100000 in
theorem c_X3_walk (l : Launch) (D : va_G) (g : Nat → ClassId) (oc : Nat) (p0 : Int32) (p1 : Int32) (p2 : Int32) (n : Nat) (sv : Nat) (oc_plan : Nat) (ow : Nat) (ol : Nat) (oc_reach : Nat) (oc_ringBits : Nat) (orc : Int32) (orn : Int32) (ose : Int32) (n_nodes : Int32) (n_kind : Nat) (n_pay : Nat) (n_name : Nat) (n_ways : Nat) (n_held : Nat) (n_targets : Nat) (n_weights : Nat) (n_fkind : Nat → Int32) (n_fways : Nat → Int32) (n_ftargets : Nat → Int32) (n_fweights : Nat → Int32) (opf : Nat → Int32) (h_p0 : 0 ≤ (p0 : Int32).toInt ∧ (p0 : Int32).toInt ≤ 11) (h_p2 : 0 ≤ (p2 : Int32).toInt ∧ (p2 : Int32).toInt ≤ 60) (h_orc : 0 ≤ (orc : Int32).toInt ∧ (orc : Int32).toInt ≤ 12) (h_ose : 0 ≤ (ose : Int32).toInt ∧ (ose : Int32).toInt ≤ 1) (h_n_nodes : 0 ≤ (n_nodes : Int32).toInt ∧ (n_nodes : Int32).toInt ≤ 12) (h_n_fkind : ∀ j : Nat, 0 ≤ (n_fkind j).toInt ∧ (n_fkind j).toInt ≤ 3) (h_n_fways : ∀ j : Nat, 0 ≤ (n_fways j).toInt ∧ (n_fways j).toInt ≤ 3) (h_n_ftargets : ∀ j : Nat, 0 ≤ (n_ftargets j).toInt ∧ (n_ftargets j).toInt ≤ 11) (h_opf : ∀ j : Nat, 0 ≤ (opf j).toInt ∧ (opf j).toInt ≤ 2) : Met l yX3_walk (.code yX3_walk cX3_walk 8 (some .int) :: wsL_law) ({ frames := 2, cells := 0, slots := 0, locals := 49 }) (va_Pc [.ref oc, .int p0, .int p1, .int p2] (fun U => va_P D vwCl [(wO3 oc n sv oc_plan ow ol oc_reach oc_ringBits orc orn ose), (wO2 n n_nodes n_kind n_pay n_name n_ways n_held n_targets n_weights), (wI g n_kind 0 12 n_fkind), (wI g n_ways 0 12 n_fways), (wI g n_targets 0 36 n_ftargets), (wI g n_weights 0 36 n_fweights), (wI g oc_plan 0 12 opf)] U.heap ∧ va_K D vwCl (TY g) U)) (vp_Si (fun r => 0 ≤ (r : Int32).toInt ∧ (r : Int32).toInt ≤ 11)) 0 0 (fun _ => False) := by
  refine Met.ofW (cc := cX3_walk) (maxL := 8) (ret := (some .int)) (by decide) rfl ?_
  intro p e s m args below meth c s₁ B hml hv
  obtain ⟨ha, hP, hK⟩ := hv
  have hx := B.exec
  have hb := B.bytes
  have hr := B.returns
  have hts0 := atoms_spec (ws := (.code yX3_walk cX3_walk 8 (some .int) :: wsL_law)) B.pre
  have hts : ∀ w ∈ wsL_law, w.before args s = true := fun w h => hts0 w (List.mem_cons_of_mem _ h)
  have hown : s.vm.findClass RX3 = some m.cls := findClass_of_methodNamed B.named
  have hlocks := B.notSynchronized
  have hP : va_P D vwCl [(wO3 oc n sv oc_plan ow ol oc_reach oc_ringBits orc orn ose), (wO2 n n_nodes n_kind n_pay n_name n_ways n_held n_targets n_weights), (wI g n_kind 0 12 n_fkind), (wI g n_ways 0 12 n_fways), (wI g n_targets 0 36 n_ftargets), (wI g n_weights 0 36 n_fweights), (wI g oc_plan 0 12 opf)] s.heap := hP
  refine W.eq (g2 := entryFrame m ([.ref oc, .int p0, .int p1, .int p2] : List Value).toArray 8) (by rw [ha]) ?_
  have hl := lv_entry ([.ref oc, .int p0, .int p1, .int p2]) (n := 8) (Nat.le_of_ble_eq_true rfl)
  rw [lg_entry_eq]
  generalize (lg_sl ([.ref oc, .int p0, .int p1, .int p2]) ++ List.replicate (8 - (lg_sl ([.ref oc, .int p0, .int p1, .int p2])).length) Slot.unset).toArray = ls at hl ⊢
  have hl : lv_has ls 8 [(0, .ref oc), (1, .int p0), (2, .int p1), (3, .int p2)] := hl
  refine lv_iload_n hx hb dX3_walk_0 rfl (lv_at hl 1 rfl) ?_
  refine lv_istore (lv' := [(4, .int p0), (0, .ref oc), (1, .int p0), (2, .int p1), (3, .int p2)]) hx hb dX3_walk_1 hl (by decide) rfl (fun ls hl => ?_)
  refine lv_iload_n hx hb dX3_walk_3 rfl (lv_at hl 3 rfl) ?_
  refine lv_istore (lv' := [(5, .int p1), (4, .int p0), (0, .ref oc), (1, .int p0), (2, .int p1), (3, .int p2)]) hx hb dX3_walk_4 hl (by decide) rfl (fun ls hl => ?_)
  refine lv_iconst (v := 0) hx hb dX3_walk_6 (by decide) ?_
  refine lv_istore (lv' := [(6, .int 0), (5, .int p1), (4, .int p0), (0, .ref oc), (1, .int p0), (2, .int p1), (3, .int p2)]) hx hb dX3_walk_7 hl (by decide) rfl (fun ls hl => ?_)
  have lp_102901 : ∀ (n_102901 : Nat) (x_102898 : Int32) (x_102899 : Int32) (x_102900 : Int32) (ls : Array Slot), (0 ≤ (x_102898 : Int32).toInt ∧ (x_102898 : Int32).toInt ≤ 100) → (0 ≤ (x_102899 : Int32).toInt ∧ (x_102899 : Int32).toInt ≤ 11) → (100 - x_102898.toInt < (n_102901 : Int)) → lv_has ls 8 [(6, .int x_102898), (5, .int x_102900), (4, .int x_102899), (0, .ref oc), (1, .int p0), (2, .int p1), (3, .int p2)] → W p l e (headSpec (.code yX3_walk cX3_walk 8 (some .int) :: wsL_law) ({ frames := 2, cells := 0, slots := 0, locals := 49 })).room s m args below meth c s.heap [] 0 0 (MQ below (vp_Si (fun r => 0 ≤ (r : Int32).toInt ∧ (r : Int32).toInt ≤ 11)) args s 0 0 (fun _ => False)) (F0 m 9 ls []) := by
    intro n_102901
    induction n_102901 with
    | zero =>
      intro x_102898 x_102899 x_102900 ls h_x_102898 h_x_102899 hm_102901 hl
      exfalso; omega
    | succ n_102901 ih_102901 =>
      intro x_102898 x_102899 x_102900 ls h_x_102898 h_x_102899 hm_102901 hl
      refine lv_iload hx hb dX3_walk_9 (lv_at hl 0 rfl) ?_
      refine lv_iload_n hx hb dX3_walk_11 rfl (lv_at hl 6 rfl) ?_
      refine lv_icmp_ge (tgt := 94) hx hb dX3_walk_12 (by decide) (fun c_102902 => ?_) (fun c_102902 => ?_)
      · skip
        refine lv_iload hx hb dX3_walk_94 (lv_at hl 2 rfl) ?_
        exact W.iret (v := x_102899) hx hb hr (fun t ht hW => ⟨x_102899, rfl, (tr_w h_x_102899 (by decide) (by decide)), ht⟩) (fun _ h => nomatch h) dX3_walk_96
      · skip
        have c_102902_i := Int32.lt_iff_toInt_lt.mp (Int32.not_le.mp c_102902)
        have h_102903 : 0 ≤ (x_102898 : Int32).toInt ∧ (x_102898 : Int32).toInt ≤ 59 := nr_lt_l h_x_102898 h_p2 c_102902_i (by decide) (by decide)
        have h_102904 : 1 ≤ (p2 : Int32).toInt ∧ (p2 : Int32).toInt ≤ 60 := nr_lt_r h_x_102898 h_p2 c_102902_i (by decide) (by decide)
        refine lv_aload_n hx hb dX3_walk_15 rfl (lv_at hl 3 rfl) ?_
        refine va_get (D := D) (ci := 3) (v := .ref n) (C := RX3) (T := TX3) (N := 10) hx hb hts inlX3 hown hK hP 0 rfl rfl 0 (by decide) (hts (Cond.fieldLink RX3 31 "ChanceRings$Outcome" "net" "LChanceRings$Net;") qw_636) (fun _ h9 => h9) rfl dX3_walk_16 ?_
        refine va_get (D := D) (ci := 2) (v := .ref n_kind) (C := RX2) (T := TX2) (N := 8) hx hb hts inlX2 hown hK hP 1 rfl rfl 1 (by decide) (hts (Cond.fieldLink RX3 96 "ChanceRings$Net" "kind" "[I") qw_643) (fun _ h9 => h9) rfl dX3_walk_19 ?_
        refine lv_iload hx hb dX3_walk_22 (lv_at hl 2 rfl) ?_
        refine va_iald hx hb hK hP 2 0 rfl rfl (tr_in h_x_102899 (by decide) (by decide)) dX3_walk_24 ?_
        refine lv_topi (fun v_102905 v_102905_e => ?_)
        have h_v_102905 : 0 ≤ (v_102905 : Int32).toInt ∧ (v_102905 : Int32).toInt ≤ 3 := by rw [v_102905_e]; exact h_n_fkind _
        refine lv_if_eq (tgt := 94) hx hb dX3_walk_25 (by decide) (fun c_102906 => ?_) (fun c_102906 => ?_)
        · skip
          have c_102906_i : (v_102905 : Int32).toInt = (0 : Int32).toInt := congrArg Int32.toInt c_102906
          have h_102907 : 0 ≤ (v_102905 : Int32).toInt ∧ (v_102905 : Int32).toInt ≤ 0 := nr_eq_l h_v_102905 (⟨by decide, by decide⟩ : 0 ≤ (0 : Int32).toInt ∧ (0 : Int32).toInt ≤ 0) c_102906_i (by decide) (by decide)
          refine lv_iload hx hb dX3_walk_94 (lv_at hl 2 rfl) ?_
          exact W.iret (v := x_102899) hx hb hr (fun t ht hW => ⟨x_102899, rfl, (tr_w h_x_102899 (by decide) (by decide)), ht⟩) (fun _ h => nomatch h) dX3_walk_96
        · skip
          have c_102906_i : ¬ (v_102905 : Int32).toInt = (0 : Int32).toInt := (fun q => c_102906 (Int32.toInt_inj.mp q))
          have h_102908 : 1 ≤ (v_102905 : Int32).toInt ∧ (v_102905 : Int32).toInt ≤ 3 := nr_ne_l h_v_102905 (⟨by decide, by decide⟩ : 0 ≤ (0 : Int32).toInt ∧ (0 : Int32).toInt ≤ 0) c_102906_i (by decide) (by decide)
          refine lv_aload_n hx hb dX3_walk_28 rfl (lv_at hl 3 rfl) ?_
          refine va_get (D := D) (ci := 3) (v := .ref oc_plan) (C := RX3) (T := TX3) (N := 10) hx hb hts inlX3 hown hK hP 0 rfl rfl 2 (by decide) (hts (Cond.fieldLink RX3 9 "ChanceRings$Outcome" "plan" "[I") qw_641) (fun _ h9 => h9) rfl dX3_walk_29 ?_
          refine lv_iload hx hb dX3_walk_32 (lv_at hl 2 rfl) ?_
          refine va_iald hx hb hK hP 6 0 rfl rfl (tr_in h_x_102899 (by decide) (by decide)) dX3_walk_34 ?_
          refine lv_topi (fun v_102909 v_102909_e => ?_)
          have h_v_102909 : 0 ≤ (v_102909 : Int32).toInt ∧ (v_102909 : Int32).toInt ≤ 2 := by rw [v_102909_e]; exact h_opf _
          refine lv_istore (lv' := [(7, .int v_102909), (6, .int x_102898), (5, .int x_102900), (4, .int x_102899), (0, .ref oc), (1, .int p0), (2, .int p1), (3, .int p2)]) hx hb dX3_walk_35 hl (by decide) rfl (fun ls hl => ?_)
          refine lv_aload_n hx hb dX3_walk_37 rfl (lv_at hl 4 rfl) ?_
          refine va_get (D := D) (ci := 3) (v := .ref n) (C := RX3) (T := TX3) (N := 10) hx hb hts inlX3 hown hK hP 0 rfl rfl 0 (by decide) (hts (Cond.fieldLink RX3 31 "ChanceRings$Outcome" "net" "LChanceRings$Net;") qw_636) (fun _ h9 => h9) rfl dX3_walk_38 ?_
          refine va_get (D := D) (ci := 2) (v := .ref n_kind) (C := RX2) (T := TX2) (N := 8) hx hb hts inlX2 hown hK hP 1 rfl rfl 1 (by decide) (hts (Cond.fieldLink RX3 96 "ChanceRings$Net" "kind" "[I") qw_643) (fun _ h9 => h9) rfl dX3_walk_41 ?_
          refine lv_iload hx hb dX3_walk_44 (lv_at hl 3 rfl) ?_
          refine va_iald hx hb hK hP 2 0 rfl rfl (tr_in h_x_102899 (by decide) (by decide)) dX3_walk_46 ?_
          refine tz_i (y := v_102905) v_102905_e.symm ?_
          refine lv_iconst (v := 3) hx hb dX3_walk_47 (by decide) ?_
          refine lv_icmp_ne (tgt := 75) hx hb dX3_walk_48 (by decide) (fun c_102910 => ?_) (fun c_102910 => ?_)
          · skip
            have c_102910_i : ¬ (v_102905 : Int32).toInt = (3 : Int32).toInt := (fun q => c_102910 (Int32.toInt_inj.mp q))
            have h_102911 : 1 ≤ (v_102905 : Int32).toInt ∧ (v_102905 : Int32).toInt ≤ 2 := nr_ne_l h_102908 (⟨by decide, by decide⟩ : 3 ≤ (3 : Int32).toInt ∧ (3 : Int32).toInt ≤ 3) c_102910_i (by decide) (by decide)
            refine lv_aload_n hx hb dX3_walk_75 rfl (lv_at hl 4 rfl) ?_
            refine va_get (D := D) (ci := 3) (v := .ref n) (C := RX3) (T := TX3) (N := 10) hx hb hts inlX3 hown hK hP 0 rfl rfl 0 (by decide) (hts (Cond.fieldLink RX3 31 "ChanceRings$Outcome" "net" "LChanceRings$Net;") qw_636) (fun _ h9 => h9) rfl dX3_walk_76 ?_
            refine lv_iload hx hb dX3_walk_79 (lv_at hl 3 rfl) ?_
            refine lv_iload hx hb dX3_walk_81 (lv_at hl 0 rfl) ?_
            have hPc := hP.sub (ws' := [(wO2 n n_nodes n_kind n_pay n_name n_ways n_held n_targets n_weights), (wI g n_targets 0 36 n_ftargets)]) [1, 4] rfl
            refine vp_callSi (va_Run.run (va_runV (As := [.int x_102899, .int v_102909]) (rest := []) ⟨hx, hb, hml, hown, hts⟩ (c_X2_target l D g n x_102899 v_102909 n_nodes n_kind n_pay n_name n_ways n_held n_targets n_weights n_ftargets (tr_w h_x_102899 (by decide) (by decide)) (tr_w h_v_102909 (by decide) (by decide)) (tr_w h_n_nodes (by decide) (by decide)) (tr_wa h_n_ftargets (by decide) (by decide))) (cwV 2 hts (tz_gV qw_661 qw_325 qw_326 qw_322 qw_327) rfl rfl rfl (by decide +kernel) ⟨Nat.le_of_ble_eq_true rfl, Nat.le_of_ble_eq_true rfl⟩) ⟨tz_blS, va_recv hK hPc (ci := 2) (q0 := 0) rfl rfl, tz_preS hPc hK⟩ rfl rfl hl.1 rfl (lv_room (Nat.le_of_ble_eq_true rfl)) dX3_walk_83 ⟨Nat.le_of_ble_eq_true rfl, Nat.le_of_ble_eq_true rfl⟩)) (fun r_102913 hw => ?_)
            have hw_102914 : 0 ≤ (r_102913 : Int32).toInt ∧ (r_102913 : Int32).toInt ≤ 11 := hw
            refine lv_istore (lv' := [(4, .int r_102913), (7, .int v_102909), (6, .int x_102898), (5, .int x_102900), (0, .ref oc), (1, .int p0), (2, .int p1), (3, .int p2)]) hx hb dX3_walk_86 hl (by decide) rfl (fun ls hl => ?_)
            obtain ⟨v_102915, v_102915_e⟩ : ∃ y : Int32, y = x_102898 + Int32.ofInt 1 := ⟨_, rfl⟩
            have h_v_102915 : 1 ≤ (v_102915 : Int32).toInt ∧ (v_102915 : Int32).toInt ≤ 60 := by rw [v_102915_e]; exact tr_add h_102903 (⟨by decide, by decide⟩ : 1 ≤ (Int32.ofInt 1 : Int32).toInt ∧ (Int32.ofInt 1 : Int32).toInt ≤ 1) (by decide) (by decide) (by decide) (by decide)
            have q_v_102915 : v_102915.toInt = x_102898.toInt + 1 := by rw [v_102915_e]; exact tr_addE h_102903 (⟨by decide, by decide⟩ : 1 ≤ (Int32.ofInt 1 : Int32).toInt ∧ (Int32.ofInt 1 : Int32).toInt ≤ 1) (by decide) (by decide)
            refine lv_iinc (v := v_102915) (lv' := [(6, .int v_102915), (4, .int r_102913), (7, .int v_102909), (5, .int x_102900), (0, .ref oc), (1, .int p0), (2, .int p1), (3, .int p2)]) hx hb dX3_walk_88 hl (k := 2) rfl v_102915_e.symm (by decide) rfl (fun ls hl => ?_)
            refine lv_goto (tgt := 9) hx hb dX3_walk_91 (by decide) ?_
            exact ih_102901 v_102915 r_102913 x_102900 ls (tr_w h_v_102915 (by decide) (by decide)) (tr_w hw_102914 (by decide) (by decide)) (by (first | (clear h_p0 h_orc h_ose h_n_nodes h_x_102899 h_v_102905 c_102906_i h_102908 h_v_102909 c_102910_i h_102911; omega) | omega)) (lv_sub hl [0, 3, 1, 4, 5, 6, 7] rfl)
          · skip
            have c_102910_i : (v_102905 : Int32).toInt = (3 : Int32).toInt := congrArg Int32.toInt c_102910
            have h_102912 : 3 ≤ (v_102905 : Int32).toInt ∧ (v_102905 : Int32).toInt ≤ 3 := nr_eq_l h_102908 (⟨by decide, by decide⟩ : 3 ≤ (3 : Int32).toInt ∧ (3 : Int32).toInt ≤ 3) c_102910_i (by decide) (by decide)
            refine lv_iload hx hb dX3_walk_51 (lv_at hl 2 rfl) ?_
            refine lv_ldc (v := 1103515245) hx hb hown (hts (Cond.constant RX3 107 (1103515245)) qw_662) dX3_walk_53 ?_
            refine lv_imul hx hb dX3_walk_55 ?_
            refine lv_topi (fun v_102916 v_102916_e => ?_)
            refine lv_sipush (v := 12345) hx hb dX3_walk_56 (by decide) ?_
            refine lv_iadd hx hb dX3_walk_59 ?_
            refine lv_topi (fun v_102917 v_102917_e => ?_)
            refine lv_istore (lv' := [(5, .int v_102917), (7, .int v_102909), (6, .int x_102898), (4, .int x_102899), (0, .ref oc), (1, .int p0), (2, .int p1), (3, .int p2)]) hx hb dX3_walk_60 hl (by decide) rfl (fun ls hl => ?_)
            refine lv_aload_n hx hb dX3_walk_62 rfl (lv_at hl 4 rfl) ?_
            refine lv_iload hx hb dX3_walk_63 (lv_at hl 3 rfl) ?_
            refine lv_iload hx hb dX3_walk_65 (lv_at hl 0 rfl) ?_
            refine lv_bipush (v := 8) hx hb dX3_walk_67 (by decide) ?_
            refine lv_iushr hx hb dX3_walk_69 rfl ?_
            refine lv_topi (fun v_102918 v_102918_e => ?_)
            have hPc := hP.sub (ws' := [(wO3 oc n sv oc_plan ow ol oc_reach oc_ringBits orc orn ose), (wO2 n n_nodes n_kind n_pay n_name n_ways n_held n_targets n_weights), (wI g n_kind 0 12 n_fkind), (wI g n_ways 0 12 n_fways), (wI g n_weights 0 36 n_fweights)]) [0, 1, 2, 3, 5] rfl
            refine vp_callSi (va_Run.run (va_runV (As := [.int x_102899, .int v_102918]) (rest := []) ⟨hx, hb, hml, hown, hts⟩ (c_X3_drawnWay l D g oc x_102899 v_102918 n sv oc_plan ow ol oc_reach oc_ringBits orc orn ose n_nodes n_kind n_pay n_name n_ways n_held n_targets n_weights n_fkind n_fways n_fweights (tr_w h_x_102899 (by decide) (by decide)) (tr_w h_orc (by decide) (by decide)) (tr_w h_ose (by decide) (by decide)) (tr_w h_n_nodes (by decide) (by decide)) (tr_wa h_n_fkind (by decide) (by decide)) (tr_wa h_n_fways (by decide) (by decide))) (cwV 2 hts (tz_gV qw_663 qw_664 qw_665 qw_649 qw_666) rfl rfl rfl (by decide +kernel) ⟨Nat.le_of_ble_eq_true rfl, Nat.le_of_ble_eq_true rfl⟩) ⟨tz_blS, va_recv hK hPc (ci := 3) (q0 := 0) rfl rfl, tz_preS hPc hK⟩ rfl rfl hl.1 rfl (lv_room (Nat.le_of_ble_eq_true rfl)) dX3_walk_70 ⟨Nat.le_of_ble_eq_true rfl, Nat.le_of_ble_eq_true rfl⟩)) (fun r_102919 hw => ?_)
            have hw_102920 : 0 ≤ (r_102919 : Int32).toInt ∧ (r_102919 : Int32).toInt ≤ 2 := hw
            refine lv_istore (lv' := [(7, .int r_102919), (5, .int v_102917), (6, .int x_102898), (4, .int x_102899), (0, .ref oc), (1, .int p0), (2, .int p1), (3, .int p2)]) hx hb dX3_walk_73 hl (by decide) rfl (fun ls hl => ?_)
            refine lv_aload_n hx hb dX3_walk_75 rfl (lv_at hl 4 rfl) ?_
            refine va_get (D := D) (ci := 3) (v := .ref n) (C := RX3) (T := TX3) (N := 10) hx hb hts inlX3 hown hK hP 0 rfl rfl 0 (by decide) (hts (Cond.fieldLink RX3 31 "ChanceRings$Outcome" "net" "LChanceRings$Net;") qw_636) (fun _ h9 => h9) rfl dX3_walk_76 ?_
            refine lv_iload hx hb dX3_walk_79 (lv_at hl 3 rfl) ?_
            refine lv_iload hx hb dX3_walk_81 (lv_at hl 0 rfl) ?_
            have hPc := hP.sub (ws' := [(wO2 n n_nodes n_kind n_pay n_name n_ways n_held n_targets n_weights), (wI g n_targets 0 36 n_ftargets)]) [1, 4] rfl
            refine vp_callSi (va_Run.run (va_runV (As := [.int x_102899, .int r_102919]) (rest := []) ⟨hx, hb, hml, hown, hts⟩ (c_X2_target l D g n x_102899 r_102919 n_nodes n_kind n_pay n_name n_ways n_held n_targets n_weights n_ftargets (tr_w h_x_102899 (by decide) (by decide)) (tr_w hw_102920 (by decide) (by decide)) (tr_w h_n_nodes (by decide) (by decide)) (tr_wa h_n_ftargets (by decide) (by decide))) (cwV 2 hts (tz_gV qw_661 qw_325 qw_326 qw_322 qw_327) rfl rfl rfl (by decide +kernel) ⟨Nat.le_of_ble_eq_true rfl, Nat.le_of_ble_eq_true rfl⟩) ⟨tz_blS, va_recv hK hPc (ci := 2) (q0 := 0) rfl rfl, tz_preS hPc hK⟩ rfl rfl hl.1 rfl (lv_room (Nat.le_of_ble_eq_true rfl)) dX3_walk_83 ⟨Nat.le_of_ble_eq_true rfl, Nat.le_of_ble_eq_true rfl⟩)) (fun r_102921 hw => ?_)
            have hw_102922 : 0 ≤ (r_102921 : Int32).toInt ∧ (r_102921 : Int32).toInt ≤ 11 := hw
            refine lv_istore (lv' := [(4, .int r_102921), (7, .int r_102919), (5, .int v_102917), (6, .int x_102898), (0, .ref oc), (1, .int p0), (2, .int p1), (3, .int p2)]) hx hb dX3_walk_86 hl (by decide) rfl (fun ls hl => ?_)
            obtain ⟨v_102923, v_102923_e⟩ : ∃ y : Int32, y = x_102898 + Int32.ofInt 1 := ⟨_, rfl⟩
            have h_v_102923 : 1 ≤ (v_102923 : Int32).toInt ∧ (v_102923 : Int32).toInt ≤ 60 := by rw [v_102923_e]; exact tr_add h_102903 (⟨by decide, by decide⟩ : 1 ≤ (Int32.ofInt 1 : Int32).toInt ∧ (Int32.ofInt 1 : Int32).toInt ≤ 1) (by decide) (by decide) (by decide) (by decide)
            have q_v_102923 : v_102923.toInt = x_102898.toInt + 1 := by rw [v_102923_e]; exact tr_addE h_102903 (⟨by decide, by decide⟩ : 1 ≤ (Int32.ofInt 1 : Int32).toInt ∧ (Int32.ofInt 1 : Int32).toInt ≤ 1) (by decide) (by decide)
            refine lv_iinc (v := v_102923) (lv' := [(6, .int v_102923), (4, .int r_102921), (7, .int r_102919), (5, .int v_102917), (0, .ref oc), (1, .int p0), (2, .int p1), (3, .int p2)]) hx hb dX3_walk_88 hl (k := 3) rfl v_102923_e.symm (by decide) rfl (fun ls hl => ?_)
            refine lv_goto (tgt := 9) hx hb dX3_walk_91 (by decide) ?_
            exact ih_102901 v_102923 r_102921 v_102917 ls (tr_w h_v_102923 (by decide) (by decide)) (tr_w hw_102922 (by decide) (by decide)) (by (first | (clear h_p0 h_orc h_ose h_n_nodes h_x_102899 h_v_102905 c_102906_i h_102908 h_v_102909 c_102910_i h_102912 hw_102920; omega) | omega)) (lv_sub hl [0, 3, 1, 4, 5, 6, 7] rfl)
  exact lp_102901 101 0 p0 p1 ls (⟨by decide, by decide⟩ : 0 ≤ (0 : Int32).toInt ∧ (0 : Int32).toInt ≤ 100) (tr_w h_p0 (by decide) (by decide)) (by decide) (lv_sub hl [0, 1, 2, 3, 4, 5, 6] rfl)
set_option maxHeartbeats 4000000 in
set_option maxRecDepth 100000 in
theorem c_X3_settle (l : Launch) (D : va_G) (g : Nat → ClassId) (sz : Nat) (oc : Nat) (n : Nat) (sv : Nat) (oc_plan : Nat) (ow : Nat) (ol : Nat) (oc_reach : Nat) (oc_ringBits : Nat) (orc : Int32) (orn : Int32) (ose : Int32) (co : Nat) (sv_keep : Nat) (sv_scaled : Nat) (eq : Nat) (co_place : Nat) (n_nodes : Int32) (n_kind : Nat) (n_pay : Nat) (n_name : Nat) (n_ways : Nat) (n_held : Nat) (n_targets : Nat) (n_weights : Nat) (n_fkind : Nat → Int32) (n_fpay : Nat → Int32) (n_fways : Nat → Int32) (n_fheld : Nat → Int32) (n_ftargets : Nat → Int32) (n_fweights : Nat → Int32) (pcf : Nat → Int32) (eq_rows : Nat) (eq_right : Nat) (ew : Int64) (fr : Nat → Int64) (rr : Nat → Nat) (ct : Nat → Nat → Int64) (kpf : Nat → Int32) (opf : Nat → Int32) (orf : Nat → Int32) (obf : Nat → Int32) (ow_part : Nat) (oww : Int64) (owp : Nat → Int64) (ol_part : Nat) (olw : Int64) (olp : Nat → Int64) (h_orc : 0 ≤ (orc : Int32).toInt ∧ (orc : Int32).toInt ≤ 12) (h_ose : 0 ≤ (ose : Int32).toInt ∧ (ose : Int32).toInt ≤ 1) (h_n_nodes : 0 ≤ (n_nodes : Int32).toInt ∧ (n_nodes : Int32).toInt ≤ 12) (h_n_fkind : ∀ j : Nat, 0 ≤ (n_fkind j).toInt ∧ (n_fkind j).toInt ≤ 3) (h_n_fways : ∀ j : Nat, 0 ≤ (n_fways j).toInt ∧ (n_fways j).toInt ≤ 3) (h_n_fheld : ∀ j : Nat, (-1) ≤ (n_fheld j).toInt ∧ (n_fheld j).toInt ≤ 2) (h_n_ftargets : ∀ j : Nat, 0 ≤ (n_ftargets j).toInt ∧ (n_ftargets j).toInt ≤ 11) (h_pcf : ∀ j : Nat, (-1) ≤ (pcf j).toInt ∧ (pcf j).toInt ≤ 7) (h_opf : ∀ j : Nat, 0 ≤ (opf j).toInt ∧ (opf j).toInt ≤ 2) : Met l yX3_settle (.code yX3_settle cX3_settle 3 none :: wsL_law) ({ frames := 6, cells := 0, slots := 0, locals := 158 }) (va_Pc [.ref oc] (fun U => U.heap.size = sz ∧ va_P D vwCl ((wO3 oc n sv oc_plan ow ol oc_reach oc_ringBits orc orn ose) :: (wO6 sv n co sv_keep sv_scaled) :: (wO0 co n eq co_place) :: (wO2 n n_nodes n_kind n_pay n_name n_ways n_held n_targets n_weights) :: (wI g n_kind 0 12 n_fkind) :: (wI g n_pay 0 12 n_fpay) :: (wI g n_ways 0 12 n_fways) :: (wI g n_held 0 12 n_fheld) :: (wI g n_targets 0 36 n_ftargets) :: (wI g n_weights 0 36 n_fweights) :: (wI g co_place 0 12 pcf) :: (wO1 eq eq_rows eq_right ew) :: (wJ g eq_right 1 8 fr) :: (wR g eq_rows 5 8 (fun i => if i < 8 then some (rr i) else none)) :: (wJ g (rr 0) 1 8 (ct 0)) :: (wJ g (rr 1) 1 8 (ct 1)) :: (wJ g (rr 2) 1 8 (ct 2)) :: (wJ g (rr 3) 1 8 (ct 3)) :: (wJ g (rr 4) 1 8 (ct 4)) :: (wJ g (rr 5) 1 8 (ct 5)) :: (wJ g (rr 6) 1 8 (ct 6)) :: (wJ g (rr 7) 1 8 (ct 7)) :: (wI g sv_keep 0 12 kpf) :: (wI g oc_plan 0 12 opf) :: (wI g oc_reach 0 12 orf) :: (wI g oc_ringBits 0 12 obf) :: (wO10 ow ow_part oww) :: (wJ g ow_part 1 12 owp) :: (wO10 ol ol_part olw) :: (wJ g ol_part 1 12 olp) :: []) U.heap ∧ va_K D vwCl (TY g) U ∧ va_D (fun _ => True) ((wO3 oc n sv oc_plan ow ol oc_reach oc_ringBits orc orn ose) :: (wO6 sv n co sv_keep sv_scaled) :: (wO0 co n eq co_place) :: (wO2 n n_nodes n_kind n_pay n_name n_ways n_held n_targets n_weights) :: (wI g n_kind 0 12 n_fkind) :: (wI g n_pay 0 12 n_fpay) :: (wI g n_ways 0 12 n_fways) :: (wI g n_held 0 12 n_fheld) :: (wI g n_targets 0 36 n_ftargets) :: (wI g n_weights 0 36 n_fweights) :: (wI g co_place 0 12 pcf) :: (wO1 eq eq_rows eq_right ew) :: (wJ g eq_right 1 8 fr) :: (wR g eq_rows 5 8 (fun i => if i < 8 then some (rr i) else none)) :: (wJ g (rr 0) 1 8 (ct 0)) :: (wJ g (rr 1) 1 8 (ct 1)) :: (wJ g (rr 2) 1 8 (ct 2)) :: (wJ g (rr 3) 1 8 (ct 3)) :: (wJ g (rr 4) 1 8 (ct 4)) :: (wJ g (rr 5) 1 8 (ct 5)) :: (wJ g (rr 6) 1 8 (ct 6)) :: (wJ g (rr 7) 1 8 (ct 7)) :: (wI g sv_keep 0 12 kpf) :: (wI g oc_plan 0 12 opf) :: (wI g oc_reach 0 12 orf) :: (wI g oc_ringBits 0 12 obf) :: (wO10 ow ow_part oww) :: (wJ g ow_part 1 12 owp) :: (wO10 ol ol_part olw) :: (wJ g ol_part 1 12 olp) :: []))) (va_Qv (fun (_ : Unit) => True) (fun _ t => ∃ xrc : Int32, ∃ xrn : Int32, ∃ xse : Int32, ∃ opc : Nat → Int32, ∃ oew : Int64, ∃ ofr : Nat → Int64, ∃ okp : Nat → Int32, ∃ xpf : Nat → Int32, ∃ xrf : Nat → Int32, ∃ xbf : Nat → Int32, ∃ xow : Int64, ∃ xowp : Nat → Int64, ∃ xol : Int64, ∃ xolp : Nat → Int64, ∃ oct : Nat → Nat → Int64, (0 ≤ (xrc : Int32).toInt ∧ (xrc : Int32).toInt ≤ 12) ∧ (0 ≤ (xse : Int32).toInt ∧ (xse : Int32).toInt ≤ 1) ∧ (∀ j : Nat, (-1) ≤ (opc j).toInt ∧ (opc j).toInt ≤ 7) ∧ (∀ j : Nat, 0 ≤ (xpf j).toInt ∧ (xpf j).toInt ≤ 2) ∧ va_P D vwCl ((wO3 oc n sv oc_plan ow ol oc_reach oc_ringBits xrc xrn xse) :: (wO6 sv n co sv_keep sv_scaled) :: (wO0 co n eq co_place) :: (wO2 n n_nodes n_kind n_pay n_name n_ways n_held n_targets n_weights) :: (wI g n_kind 0 12 n_fkind) :: (wI g n_pay 0 12 n_fpay) :: (wI g n_ways 0 12 n_fways) :: (wI g n_held 0 12 n_fheld) :: (wI g n_targets 0 36 n_ftargets) :: (wI g n_weights 0 36 n_fweights) :: (wI g co_place 0 12 opc) :: (wO1 eq eq_rows eq_right oew) :: (wJ g eq_right 1 8 ofr) :: (wR g eq_rows 5 8 (fun i => if i < 8 then some (rr i) else none)) :: (wJ g (rr 0) 1 8 (oct 0)) :: (wJ g (rr 1) 1 8 (oct 1)) :: (wJ g (rr 2) 1 8 (oct 2)) :: (wJ g (rr 3) 1 8 (oct 3)) :: (wJ g (rr 4) 1 8 (oct 4)) :: (wJ g (rr 5) 1 8 (oct 5)) :: (wJ g (rr 6) 1 8 (oct 6)) :: (wJ g (rr 7) 1 8 (oct 7)) :: (wI g sv_keep 0 12 okp) :: (wI g oc_plan 0 12 xpf) :: (wI g oc_reach 0 12 xrf) :: (wI g oc_ringBits 0 12 xbf) :: (wO10 ow ow_part xow) :: (wJ g ow_part 1 12 xowp) :: (wO10 ol ol_part xol) :: (wJ g ol_part 1 12 xolp) :: []) t.heap ∧ va_D (va_A ((wO3 oc n sv oc_plan ow ol oc_reach oc_ringBits orc orn ose) :: (wO6 sv n co sv_keep sv_scaled) :: (wO0 co n eq co_place) :: (wO2 n n_nodes n_kind n_pay n_name n_ways n_held n_targets n_weights) :: (wI g n_kind 0 12 n_fkind) :: (wI g n_pay 0 12 n_fpay) :: (wI g n_ways 0 12 n_fways) :: (wI g n_held 0 12 n_fheld) :: (wI g n_targets 0 36 n_ftargets) :: (wI g n_weights 0 36 n_fweights) :: (wI g co_place 0 12 pcf) :: (wO1 eq eq_rows eq_right ew) :: (wJ g eq_right 1 8 fr) :: (wR g eq_rows 5 8 (fun i => if i < 8 then some (rr i) else none)) :: (wJ g (rr 0) 1 8 (ct 0)) :: (wJ g (rr 1) 1 8 (ct 1)) :: (wJ g (rr 2) 1 8 (ct 2)) :: (wJ g (rr 3) 1 8 (ct 3)) :: (wJ g (rr 4) 1 8 (ct 4)) :: (wJ g (rr 5) 1 8 (ct 5)) :: (wJ g (rr 6) 1 8 (ct 6)) :: (wJ g (rr 7) 1 8 (ct 7)) :: (wI g sv_keep 0 12 kpf) :: (wI g oc_plan 0 12 opf) :: (wI g oc_reach 0 12 orf) :: (wI g oc_ringBits 0 12 obf) :: (wO10 ow ow_part oww) :: (wJ g ow_part 1 12 owp) :: (wO10 ol ol_part olw) :: (wJ g ol_part 1 12 olp) :: []) sz) ((wO3 oc n sv oc_plan ow ol oc_reach oc_ringBits xrc xrn xse) :: (wO6 sv n co sv_keep sv_scaled) :: (wO0 co n eq co_place) :: (wO2 n n_nodes n_kind n_pay n_name n_ways n_held n_targets n_weights) :: (wI g n_kind 0 12 n_fkind) :: (wI g n_pay 0 12 n_fpay) :: (wI g n_ways 0 12 n_fways) :: (wI g n_held 0 12 n_fheld) :: (wI g n_targets 0 36 n_ftargets) :: (wI g n_weights 0 36 n_fweights) :: (wI g co_place 0 12 opc) :: (wO1 eq eq_rows eq_right oew) :: (wJ g eq_right 1 8 ofr) :: (wR g eq_rows 5 8 (fun i => if i < 8 then some (rr i) else none)) :: (wJ g (rr 0) 1 8 (oct 0)) :: (wJ g (rr 1) 1 8 (oct 1)) :: (wJ g (rr 2) 1 8 (oct 2)) :: (wJ g (rr 3) 1 8 (oct 3)) :: (wJ g (rr 4) 1 8 (oct 4)) :: (wJ g (rr 5) 1 8 (oct 5)) :: (wJ g (rr 6) 1 8 (oct 6)) :: (wJ g (rr 7) 1 8 (oct 7)) :: (wI g sv_keep 0 12 okp) :: (wI g oc_plan 0 12 xpf) :: (wI g oc_reach 0 12 xrf) :: (wI g oc_ringBits 0 12 xbf) :: (wO10 ow ow_part xow) :: (wJ g ow_part 1 12 xowp) :: (wO10 ol ol_part xol) :: (wJ g ol_part 1 12 xolp) :: [])) (va_A ((wO3 oc n sv oc_plan ow ol oc_reach oc_ringBits orc orn ose) :: (wO6 sv n co sv_keep sv_scaled) :: (wO0 co n eq co_place) :: (wO2 n n_nodes n_kind n_pay n_name n_ways n_held n_targets n_weights) :: (wI g n_kind 0 12 n_fkind) :: (wI g n_pay 0 12 n_fpay) :: (wI g n_ways 0 12 n_fways) :: (wI g n_held 0 12 n_fheld) :: (wI g n_targets 0 36 n_ftargets) :: (wI g n_weights 0 36 n_fweights) :: (wI g co_place 0 12 pcf) :: (wO1 eq eq_rows eq_right ew) :: (wJ g eq_right 1 8 fr) :: (wR g eq_rows 5 8 (fun i => if i < 8 then some (rr i) else none)) :: (wJ g (rr 0) 1 8 (ct 0)) :: (wJ g (rr 1) 1 8 (ct 1)) :: (wJ g (rr 2) 1 8 (ct 2)) :: (wJ g (rr 3) 1 8 (ct 3)) :: (wJ g (rr 4) 1 8 (ct 4)) :: (wJ g (rr 5) 1 8 (ct 5)) :: (wJ g (rr 6) 1 8 (ct 6)) :: (wJ g (rr 7) 1 8 (ct 7)) :: (wI g sv_keep 0 12 kpf) :: (wI g oc_plan 0 12 opf) :: (wI g oc_reach 0 12 orf) :: (wI g oc_ringBits 0 12 obf) :: (wO10 ow ow_part oww) :: (wJ g ow_part 1 12 owp) :: (wO10 ol ol_part olw) :: (wJ g ol_part 1 12 olp) :: []) sz)) 0 0 (va_A ((wO3 oc n sv oc_plan ow ol oc_reach oc_ringBits orc orn ose) :: (wO6 sv n co sv_keep sv_scaled) :: (wO0 co n eq co_place) :: (wO2 n n_nodes n_kind n_pay n_name n_ways n_held n_targets n_weights) :: (wI g n_kind 0 12 n_fkind) :: (wI g n_pay 0 12 n_fpay) :: (wI g n_ways 0 12 n_fways) :: (wI g n_held 0 12 n_fheld) :: (wI g n_targets 0 36 n_ftargets) :: (wI g n_weights 0 36 n_fweights) :: (wI g co_place 0 12 pcf) :: (wO1 eq eq_rows eq_right ew) :: (wJ g eq_right 1 8 fr) :: (wR g eq_rows 5 8 (fun i => if i < 8 then some (rr i) else none)) :: (wJ g (rr 0) 1 8 (ct 0)) :: (wJ g (rr 1) 1 8 (ct 1)) :: (wJ g (rr 2) 1 8 (ct 2)) :: (wJ g (rr 3) 1 8 (ct 3)) :: (wJ g (rr 4) 1 8 (ct 4)) :: (wJ g (rr 5) 1 8 (ct 5)) :: (wJ g (rr 6) 1 8 (ct 6)) :: (wJ g (rr 7) 1 8 (ct 7)) :: (wI g sv_keep 0 12 kpf) :: (wI g oc_plan 0 12 opf) :: (wI g oc_reach 0 12 orf) :: (wI g oc_ringBits 0 12 obf) :: (wO10 ow ow_part oww) :: (wJ g ow_part 1 12 owp) :: (wO10 ol ol_part olw) :: (wJ g ol_part 1 12 olp) :: []) sz) := by
  refine Met.ofW (cc := cX3_settle) (maxL := 3) (ret := none) (by decide) rfl ?_
  intro p e s m args below meth c s₁ B hml hv
  obtain ⟨ha, hsz, hP, hK, hD0⟩ := hv
  have hx := B.exec
  have hb := B.bytes
  have hr := B.returns
  have hts0 := atoms_spec (ws := (.code yX3_settle cX3_settle 3 none :: wsL_law)) B.pre
  have hts : ∀ w ∈ wsL_law, w.before args s = true := fun w h => hts0 w (List.mem_cons_of_mem _ h)
  have hown : s.vm.findClass RX3 = some m.cls := findClass_of_methodNamed B.named
  have hlocks := B.notSynchronized
  subst hsz
  have hD := hD0.self (sz := s.heap.size)
  generalize hAe : va_A ((wO3 oc n sv oc_plan ow ol oc_reach oc_ringBits orc orn ose) :: (wO6 sv n co sv_keep sv_scaled) :: (wO0 co n eq co_place) :: (wO2 n n_nodes n_kind n_pay n_name n_ways n_held n_targets n_weights) :: (wI g n_kind 0 12 n_fkind) :: (wI g n_pay 0 12 n_fpay) :: (wI g n_ways 0 12 n_fways) :: (wI g n_held 0 12 n_fheld) :: (wI g n_targets 0 36 n_ftargets) :: (wI g n_weights 0 36 n_fweights) :: (wI g co_place 0 12 pcf) :: (wO1 eq eq_rows eq_right ew) :: (wJ g eq_right 1 8 fr) :: (wR g eq_rows 5 8 (fun i => if i < 8 then some (rr i) else none)) :: (wJ g (rr 0) 1 8 (ct 0)) :: (wJ g (rr 1) 1 8 (ct 1)) :: (wJ g (rr 2) 1 8 (ct 2)) :: (wJ g (rr 3) 1 8 (ct 3)) :: (wJ g (rr 4) 1 8 (ct 4)) :: (wJ g (rr 5) 1 8 (ct 5)) :: (wJ g (rr 6) 1 8 (ct 6)) :: (wJ g (rr 7) 1 8 (ct 7)) :: (wI g sv_keep 0 12 kpf) :: (wI g oc_plan 0 12 opf) :: (wI g oc_reach 0 12 orf) :: (wI g oc_ringBits 0 12 obf) :: (wO10 ow ow_part oww) :: (wJ g ow_part 1 12 owp) :: (wO10 ol ol_part olw) :: (wJ g ol_part 1 12 olp) :: []) s.heap.size = A at hD ⊢
  have hA : ∀ q : Nat, s.heap.size ≤ q → A q := fun q h => by rw [← hAe]; exact Or.inr h
  have hS : va_S A s.heap s.heap [] := va_S.rf
  have hP : va_P D vwCl ((wO3 oc n sv oc_plan ow ol oc_reach oc_ringBits orc orn ose) :: (wO6 sv n co sv_keep sv_scaled) :: (wO0 co n eq co_place) :: (wO2 n n_nodes n_kind n_pay n_name n_ways n_held n_targets n_weights) :: (wI g n_kind 0 12 n_fkind) :: (wI g n_pay 0 12 n_fpay) :: (wI g n_ways 0 12 n_fways) :: (wI g n_held 0 12 n_fheld) :: (wI g n_targets 0 36 n_ftargets) :: (wI g n_weights 0 36 n_fweights) :: (wI g co_place 0 12 pcf) :: (wO1 eq eq_rows eq_right ew) :: (wJ g eq_right 1 8 fr) :: (wR g eq_rows 5 8 (fun i => if i < 8 then some (rr i) else none)) :: (wJ g (rr 0) 1 8 (ct 0)) :: (wJ g (rr 1) 1 8 (ct 1)) :: (wJ g (rr 2) 1 8 (ct 2)) :: (wJ g (rr 3) 1 8 (ct 3)) :: (wJ g (rr 4) 1 8 (ct 4)) :: (wJ g (rr 5) 1 8 (ct 5)) :: (wJ g (rr 6) 1 8 (ct 6)) :: (wJ g (rr 7) 1 8 (ct 7)) :: (wI g sv_keep 0 12 kpf) :: (wI g oc_plan 0 12 opf) :: (wI g oc_reach 0 12 orf) :: (wI g oc_ringBits 0 12 obf) :: (wO10 ow ow_part oww) :: (wJ g ow_part 1 12 owp) :: (wO10 ol ol_part olw) :: (wJ g ol_part 1 12 olp) :: []) s.heap := hP
  refine W.eq (g2 := entryFrame m ([.ref oc] : List Value).toArray 3) (by rw [ha]) ?_
  have hl := lv_entry ([.ref oc]) (n := 3) (Nat.le_of_ble_eq_true rfl)
  rw [lg_entry_eq]
  generalize (lg_sl ([.ref oc]) ++ List.replicate (3 - (lg_sl ([.ref oc])).length) Slot.unset).toArray = ls at hl ⊢
  have hl : lv_has ls 3 [(0, .ref oc)] := hl
  refine lv_aload_n hx hb dX3_settle_0 rfl (lv_at hl 0 rfl) ?_
  refine va_get (D := D) (ci := 3) (v := .int ose) (C := RX3) (T := TX3) (N := 10) hx hb hts inlX3 hown hK hP 0 rfl rfl 9 (by decide) (hts (Cond.fieldLink RX3 39 "ChanceRings$Outcome" "settled" "Z") qw_667) (fun _ h9 => h9) rfl dX3_settle_1 ?_
  refine lv_if_eq (tgt := 8) hx hb dX3_settle_4 (by decide) (fun c_102924 => ?_) (fun c_102924 => ?_)
  · skip
    have c_102924_i : (ose : Int32).toInt = (0 : Int32).toInt := congrArg Int32.toInt c_102924
    have h_102925 : 0 ≤ (ose : Int32).toInt ∧ (ose : Int32).toInt ≤ 0 := nr_eq_l h_ose (⟨by decide, by decide⟩ : 0 ≤ (0 : Int32).toInt ∧ (0 : Int32).toInt ≤ 0) c_102924_i (by decide) (by decide)
    refine lv_aload_n hx hb dX3_settle_8 rfl (lv_at hl 0 rfl) ?_
    refine va_get (D := D) (ci := 3) (v := .ref sv) (C := RX3) (T := TX3) (N := 10) hx hb hts inlX3 hown hK hP 0 rfl rfl 1 (by decide) (hts (Cond.fieldLink RX3 35 "ChanceRings$Outcome" "solver" "LChanceRings$Solver;") qw_639) (fun _ h9 => h9) rfl dX3_settle_9 ?_
    refine lv_aload_n hx hb dX3_settle_12 rfl (lv_at hl 0 rfl) ?_
    refine va_get (D := D) (ci := 3) (v := .ref oc_plan) (C := RX3) (T := TX3) (N := 10) hx hb hts inlX3 hown hK hP 0 rfl rfl 2 (by decide) (hts (Cond.fieldLink RX3 9 "ChanceRings$Outcome" "plan" "[I") qw_641) (fun _ h9 => h9) rfl dX3_settle_13 ?_
    have hPc := hP.sub (ws' := [(wO6 sv n co sv_keep sv_scaled), (wO2 n n_nodes n_kind n_pay n_name n_ways n_held n_targets n_weights), (wI g n_held 0 12 n_fheld), (wI g oc_plan 0 12 opf)]) [1, 3, 7, 23] rfl
    have hDc := hD.sub (ws' := [(wO6 sv n co sv_keep sv_scaled), (wO2 n n_nodes n_kind n_pay n_name n_ways n_held n_targets n_weights), (wI g n_held 0 12 n_fheld), (wI g oc_plan 0 12 opf)]) [1, 3, 7, 23] (by decide) rfl
    have hFc := va_free (wc := [(wO6 sv n co sv_keep sv_scaled), (wO2 n n_nodes n_kind n_pay n_name n_ways n_held n_targets n_weights), (wI g n_held 0 12 n_fheld), (wI g oc_plan 0 12 opf)]) hD hS hA [1, 3, 7, 23] rfl
    refine va_callv (va_runV (As := [.ref oc_plan]) (rest := []) ⟨hx, hb, hml, hown, hts⟩ (c_X6_firstWays l D g s.heap.size sv oc_plan n co sv_keep sv_scaled n_nodes n_kind n_pay n_name n_ways n_held n_targets n_weights n_fheld opf (tr_w h_n_nodes (by decide) (by decide)) (tr_wa h_n_fheld (by decide) (by decide)) (tr_wa h_opf (by decide) (by decide))) (cwV 1 hts (tz_gV qw_668 qw_669 qw_670 qw_558 qw_671) rfl rfl rfl (by decide +kernel) ⟨Nat.le_of_ble_eq_true rfl, Nat.le_of_ble_eq_true rfl⟩) ⟨tz_blQ, va_recv hK hPc (ci := 6) (q0 := 0) rfl rfl, tz_preQ hPc hK hDc⟩ rfl rfl hl.1 rfl (lv_room (Nat.le_of_ble_eq_true rfl)) dX3_settle_16 ⟨Nat.le_of_ble_eq_true rfl, Nat.le_of_ble_eq_true rfl⟩) hS (fun q _ h => hFc q h) hFc (fun u t H1 locs ht hvm hw hB hz1 hk1 hS => ?_)
    obtain ⟨opl_102928, hf_102929, hP1, hD1⟩ := hB
    rw [ht] at hP1
    obtain ⟨hP, hD⟩ := va_join (wr := [(wO3 oc n sv oc_plan ow ol oc_reach oc_ringBits orc orn ose), (wO0 co n eq co_place), (wI g n_kind 0 12 n_fkind), (wI g n_pay 0 12 n_fpay), (wI g n_ways 0 12 n_fways), (wI g n_targets 0 36 n_ftargets), (wI g n_weights 0 36 n_fweights), (wI g co_place 0 12 pcf), (wO1 eq eq_rows eq_right ew), (wJ g eq_right 1 8 fr), (wR g eq_rows 5 8 (fun i => if i < 8 then some (rr i) else none)), (wJ g (rr 0) 1 8 (ct 0)), (wJ g (rr 1) 1 8 (ct 1)), (wJ g (rr 2) 1 8 (ct 2)), (wJ g (rr 3) 1 8 (ct 3)), (wJ g (rr 4) 1 8 (ct 4)), (wJ g (rr 5) 1 8 (ct 5)), (wJ g (rr 6) 1 8 (ct 6)), (wJ g (rr 7) 1 8 (ct 7)), (wI g sv_keep 0 12 kpf), (wI g oc_reach 0 12 orf), (wI g oc_ringBits 0 12 obf), (wO10 ow ow_part oww), (wJ g ow_part 1 12 owp), (wO10 ol ol_part olw), (wJ g ol_part 1 12 olp)]) (w1 := [(wO6 sv n co sv_keep sv_scaled), (wO2 n n_nodes n_kind n_pay n_name n_ways n_held n_targets n_weights), (wI g n_held 0 12 n_fheld), (wI g oc_plan 0 12 opl_102928)]) hP hD [1, 3, 7, 23] [0, 2, 4, 5, 6, 8, 9, 10, 11, 12, 13, 14, 15, 16, 17, 18, 19, 20, 21, 22, 24, 25, 26, 27, 28, 29] rfl rfl (by decide) (by decide) hk1 hFc hP1 hD1
    generalize H1 = H at hP hS ⊢
    have hP : va_P D vwCl ((wO3 oc n sv oc_plan ow ol oc_reach oc_ringBits orc orn ose) :: (wO0 co n eq co_place) :: (wI g n_kind 0 12 n_fkind) :: (wI g n_pay 0 12 n_fpay) :: (wI g n_ways 0 12 n_fways) :: (wI g n_targets 0 36 n_ftargets) :: (wI g n_weights 0 36 n_fweights) :: (wI g co_place 0 12 pcf) :: (wO1 eq eq_rows eq_right ew) :: (wJ g eq_right 1 8 fr) :: (wR g eq_rows 5 8 (fun i => if i < 8 then some (rr i) else none)) :: (wJ g (rr 0) 1 8 (ct 0)) :: (wJ g (rr 1) 1 8 (ct 1)) :: (wJ g (rr 2) 1 8 (ct 2)) :: (wJ g (rr 3) 1 8 (ct 3)) :: (wJ g (rr 4) 1 8 (ct 4)) :: (wJ g (rr 5) 1 8 (ct 5)) :: (wJ g (rr 6) 1 8 (ct 6)) :: (wJ g (rr 7) 1 8 (ct 7)) :: (wI g sv_keep 0 12 kpf) :: (wI g oc_reach 0 12 orf) :: (wI g oc_ringBits 0 12 obf) :: (wO10 ow ow_part oww) :: (wJ g ow_part 1 12 owp) :: (wO10 ol ol_part olw) :: (wJ g ol_part 1 12 olp) :: (wO6 sv n co sv_keep sv_scaled) :: (wO2 n n_nodes n_kind n_pay n_name n_ways n_held n_targets n_weights) :: (wI g n_held 0 12 n_fheld) :: (wI g oc_plan 0 12 opl_102928) :: []) H := hP
    have hD : va_D A ((wO3 oc n sv oc_plan ow ol oc_reach oc_ringBits orc orn ose) :: (wO0 co n eq co_place) :: (wI g n_kind 0 12 n_fkind) :: (wI g n_pay 0 12 n_fpay) :: (wI g n_ways 0 12 n_fways) :: (wI g n_targets 0 36 n_ftargets) :: (wI g n_weights 0 36 n_fweights) :: (wI g co_place 0 12 pcf) :: (wO1 eq eq_rows eq_right ew) :: (wJ g eq_right 1 8 fr) :: (wR g eq_rows 5 8 (fun i => if i < 8 then some (rr i) else none)) :: (wJ g (rr 0) 1 8 (ct 0)) :: (wJ g (rr 1) 1 8 (ct 1)) :: (wJ g (rr 2) 1 8 (ct 2)) :: (wJ g (rr 3) 1 8 (ct 3)) :: (wJ g (rr 4) 1 8 (ct 4)) :: (wJ g (rr 5) 1 8 (ct 5)) :: (wJ g (rr 6) 1 8 (ct 6)) :: (wJ g (rr 7) 1 8 (ct 7)) :: (wI g sv_keep 0 12 kpf) :: (wI g oc_reach 0 12 orf) :: (wI g oc_ringBits 0 12 obf) :: (wO10 ow ow_part oww) :: (wJ g ow_part 1 12 owp) :: (wO10 ol ol_part olw) :: (wJ g ol_part 1 12 olp) :: (wO6 sv n co sv_keep sv_scaled) :: (wO2 n n_nodes n_kind n_pay n_name n_ways n_held n_targets n_weights) :: (wI g n_held 0 12 n_fheld) :: (wI g oc_plan 0 12 opl_102928) :: []) := hD
    refine lv_aload_n hx hb dX3_settle_19 rfl (lv_at hl 0 rfl) ?_
    refine va_get (D := D) (ci := 3) (v := .ref sv) (C := RX3) (T := TX3) (N := 10) hx hb hts inlX3 hown hK hP 0 rfl rfl 1 (by decide) (hts (Cond.fieldLink RX3 35 "ChanceRings$Outcome" "solver" "LChanceRings$Solver;") qw_639) (fun _ h9 => h9) rfl dX3_settle_20 ?_
    refine lv_aload_n hx hb dX3_settle_23 rfl (lv_at hl 0 rfl) ?_
    refine va_get (D := D) (ci := 3) (v := .ref oc_plan) (C := RX3) (T := TX3) (N := 10) hx hb hts inlX3 hown hK hP 0 rfl rfl 2 (by decide) (hts (Cond.fieldLink RX3 9 "ChanceRings$Outcome" "plan" "[I") qw_641) (fun _ h9 => h9) rfl dX3_settle_24 ?_
    refine lv_iconst (v := 1) hx hb dX3_settle_27 (by decide) ?_
    refine lv_iconst (v := 1) hx hb dX3_settle_28 (by decide) ?_
    refine lv_aload_n hx hb dX3_settle_29 rfl (lv_at hl 0 rfl) ?_
    refine va_get (D := D) (ci := 3) (v := .ref ow) (C := RX3) (T := TX3) (N := 10) hx hb hts inlX3 hown hK hP 0 rfl rfl 3 (by decide) (hts (Cond.fieldLink RX3 18 "ChanceRings$Outcome" "worth" "LChanceRings$Values;") qw_652) (fun _ h9 => h9) rfl dX3_settle_30 ?_
    have hPc := hP.sub (ws' := [(wO6 sv n co sv_keep sv_scaled), (wO0 co n eq co_place), (wO2 n n_nodes n_kind n_pay n_name n_ways n_held n_targets n_weights), (wI g n_kind 0 12 n_fkind), (wI g n_pay 0 12 n_fpay), (wI g n_ways 0 12 n_fways), (wI g n_held 0 12 n_fheld), (wI g n_targets 0 36 n_ftargets), (wI g n_weights 0 36 n_fweights), (wI g co_place 0 12 pcf), (wO1 eq eq_rows eq_right ew), (wJ g eq_right 1 8 fr), (wR g eq_rows 5 8 (fun i => if i < 8 then some (rr i) else none)), (wJ g (rr 0) 1 8 (ct 0)), (wJ g (rr 1) 1 8 (ct 1)), (wJ g (rr 2) 1 8 (ct 2)), (wJ g (rr 3) 1 8 (ct 3)), (wJ g (rr 4) 1 8 (ct 4)), (wJ g (rr 5) 1 8 (ct 5)), (wJ g (rr 6) 1 8 (ct 6)), (wJ g (rr 7) 1 8 (ct 7)), (wI g oc_plan 0 12 opl_102928), (wO10 ow ow_part oww), (wJ g ow_part 1 12 owp)]) [26, 1, 27, 2, 3, 4, 28, 5, 6, 7, 8, 9, 10, 11, 12, 13, 14, 15, 16, 17, 18, 29, 22, 23] rfl
    have hDc := hD.sub (ws' := [(wO6 sv n co sv_keep sv_scaled), (wO0 co n eq co_place), (wO2 n n_nodes n_kind n_pay n_name n_ways n_held n_targets n_weights), (wI g n_kind 0 12 n_fkind), (wI g n_pay 0 12 n_fpay), (wI g n_ways 0 12 n_fways), (wI g n_held 0 12 n_fheld), (wI g n_targets 0 36 n_ftargets), (wI g n_weights 0 36 n_fweights), (wI g co_place 0 12 pcf), (wO1 eq eq_rows eq_right ew), (wJ g eq_right 1 8 fr), (wR g eq_rows 5 8 (fun i => if i < 8 then some (rr i) else none)), (wJ g (rr 0) 1 8 (ct 0)), (wJ g (rr 1) 1 8 (ct 1)), (wJ g (rr 2) 1 8 (ct 2)), (wJ g (rr 3) 1 8 (ct 3)), (wJ g (rr 4) 1 8 (ct 4)), (wJ g (rr 5) 1 8 (ct 5)), (wJ g (rr 6) 1 8 (ct 6)), (wJ g (rr 7) 1 8 (ct 7)), (wI g oc_plan 0 12 opl_102928), (wO10 ow ow_part oww), (wJ g ow_part 1 12 owp)]) [26, 1, 27, 2, 3, 4, 28, 5, 6, 7, 8, 9, 10, 11, 12, 13, 14, 15, 16, 17, 18, 29, 22, 23] (by decide) rfl
    have hFc := va_free (wc := [(wO6 sv n co sv_keep sv_scaled), (wO0 co n eq co_place), (wO2 n n_nodes n_kind n_pay n_name n_ways n_held n_targets n_weights), (wI g n_kind 0 12 n_fkind), (wI g n_pay 0 12 n_fpay), (wI g n_ways 0 12 n_fways), (wI g n_held 0 12 n_fheld), (wI g n_targets 0 36 n_ftargets), (wI g n_weights 0 36 n_fweights), (wI g co_place 0 12 pcf), (wO1 eq eq_rows eq_right ew), (wJ g eq_right 1 8 fr), (wR g eq_rows 5 8 (fun i => if i < 8 then some (rr i) else none)), (wJ g (rr 0) 1 8 (ct 0)), (wJ g (rr 1) 1 8 (ct 1)), (wJ g (rr 2) 1 8 (ct 2)), (wJ g (rr 3) 1 8 (ct 3)), (wJ g (rr 4) 1 8 (ct 4)), (wJ g (rr 5) 1 8 (ct 5)), (wJ g (rr 6) 1 8 (ct 6)), (wJ g (rr 7) 1 8 (ct 7)), (wI g oc_plan 0 12 opl_102928), (wO10 ow ow_part oww), (wJ g ow_part 1 12 owp)]) hD hS hA [26, 1, 27, 2, 3, 4, 28, 5, 6, 7, 8, 9, 10, 11, 12, 13, 14, 15, 16, 17, 18, 29, 22, 23] rfl
    refine va_callv (va_runV (As := [.ref oc_plan, .int 1, .int 1, .ref ow]) (rest := []) ⟨hx, hb, hml, hown, hts⟩ (c_X6_findWorth l D g H.size sv oc_plan 1 1 ow n co sv_keep sv_scaled eq co_place n_nodes n_kind n_pay n_name n_ways n_held n_targets n_weights n_fkind n_fpay n_fways n_fheld n_ftargets n_fweights pcf eq_rows eq_right ew fr rr ct opl_102928 ow_part oww owp (tr_w h_n_nodes (by decide) (by decide)) (tr_wa h_n_fkind (by decide) (by decide)) (tr_wa h_n_fways (by decide) (by decide)) (tr_wa h_n_fheld (by decide) (by decide)) (tr_wa h_n_ftargets (by decide) (by decide)) (tr_wa h_pcf (by decide) (by decide)) (tr_wa hf_102929 (by decide) (by decide))) (cwV 4 hts (tz_gV qw_672 qw_673 qw_674 qw_558 qw_675) rfl rfl rfl (by decide +kernel) ⟨Nat.le_of_ble_eq_true rfl, Nat.le_of_ble_eq_true rfl⟩) ⟨tz_blQ, va_recv hK hPc (ci := 6) (q0 := 0) rfl rfl, tz_preQ hPc hK hDc⟩ rfl rfl hl.1 rfl (lv_room (Nat.le_of_ble_eq_true rfl)) dX3_settle_33 ⟨Nat.le_of_ble_eq_true rfl, Nat.le_of_ble_eq_true rfl⟩) hS (fun q _ h => hFc q h) hFc (fun u t H1 locs ht hvm hw hB hz1 hk1 hS => ?_)
    obtain ⟨opc_102931, oew_102932, ofr_102933, opl_102934, ovw_102935, ovp_102936, oct_102937, hf_102938, hf_102939, hP1, hD1⟩ := hB
    rw [ht] at hP1
    obtain ⟨hP, hD⟩ := va_join (wr := [(wO3 oc n sv oc_plan ow ol oc_reach oc_ringBits orc orn ose), (wI g sv_keep 0 12 kpf), (wI g oc_reach 0 12 orf), (wI g oc_ringBits 0 12 obf), (wO10 ol ol_part olw), (wJ g ol_part 1 12 olp)]) (w1 := [(wO6 sv n co sv_keep sv_scaled), (wO0 co n eq co_place), (wO2 n n_nodes n_kind n_pay n_name n_ways n_held n_targets n_weights), (wI g n_kind 0 12 n_fkind), (wI g n_pay 0 12 n_fpay), (wI g n_ways 0 12 n_fways), (wI g n_held 0 12 n_fheld), (wI g n_targets 0 36 n_ftargets), (wI g n_weights 0 36 n_fweights), (wI g co_place 0 12 opc_102931), (wO1 eq eq_rows eq_right oew_102932), (wJ g eq_right 1 8 ofr_102933), (wR g eq_rows 5 8 (fun i => if i < 8 then some (rr i) else none)), (wJ g (rr 0) 1 8 (oct_102937 0)), (wJ g (rr 1) 1 8 (oct_102937 1)), (wJ g (rr 2) 1 8 (oct_102937 2)), (wJ g (rr 3) 1 8 (oct_102937 3)), (wJ g (rr 4) 1 8 (oct_102937 4)), (wJ g (rr 5) 1 8 (oct_102937 5)), (wJ g (rr 6) 1 8 (oct_102937 6)), (wJ g (rr 7) 1 8 (oct_102937 7)), (wI g oc_plan 0 12 opl_102934), (wO10 ow ow_part ovw_102935), (wJ g ow_part 1 12 ovp_102936)]) hP hD [26, 1, 27, 2, 3, 4, 28, 5, 6, 7, 8, 9, 10, 11, 12, 13, 14, 15, 16, 17, 18, 29, 22, 23] [0, 19, 20, 21, 24, 25] rfl rfl (by decide) (by decide) hk1 hFc hP1 hD1
    generalize H1 = H at hP hS ⊢
    have hP : va_P D vwCl ((wO3 oc n sv oc_plan ow ol oc_reach oc_ringBits orc orn ose) :: (wI g sv_keep 0 12 kpf) :: (wI g oc_reach 0 12 orf) :: (wI g oc_ringBits 0 12 obf) :: (wO10 ol ol_part olw) :: (wJ g ol_part 1 12 olp) :: (wO6 sv n co sv_keep sv_scaled) :: (wO0 co n eq co_place) :: (wO2 n n_nodes n_kind n_pay n_name n_ways n_held n_targets n_weights) :: (wI g n_kind 0 12 n_fkind) :: (wI g n_pay 0 12 n_fpay) :: (wI g n_ways 0 12 n_fways) :: (wI g n_held 0 12 n_fheld) :: (wI g n_targets 0 36 n_ftargets) :: (wI g n_weights 0 36 n_fweights) :: (wI g co_place 0 12 opc_102931) :: (wO1 eq eq_rows eq_right oew_102932) :: (wJ g eq_right 1 8 ofr_102933) :: (wR g eq_rows 5 8 (fun i => if i < 8 then some (rr i) else none)) :: (wJ g (rr 0) 1 8 (oct_102937 0)) :: (wJ g (rr 1) 1 8 (oct_102937 1)) :: (wJ g (rr 2) 1 8 (oct_102937 2)) :: (wJ g (rr 3) 1 8 (oct_102937 3)) :: (wJ g (rr 4) 1 8 (oct_102937 4)) :: (wJ g (rr 5) 1 8 (oct_102937 5)) :: (wJ g (rr 6) 1 8 (oct_102937 6)) :: (wJ g (rr 7) 1 8 (oct_102937 7)) :: (wI g oc_plan 0 12 opl_102934) :: (wO10 ow ow_part ovw_102935) :: (wJ g ow_part 1 12 ovp_102936) :: []) H := hP
    have hD : va_D A ((wO3 oc n sv oc_plan ow ol oc_reach oc_ringBits orc orn ose) :: (wI g sv_keep 0 12 kpf) :: (wI g oc_reach 0 12 orf) :: (wI g oc_ringBits 0 12 obf) :: (wO10 ol ol_part olw) :: (wJ g ol_part 1 12 olp) :: (wO6 sv n co sv_keep sv_scaled) :: (wO0 co n eq co_place) :: (wO2 n n_nodes n_kind n_pay n_name n_ways n_held n_targets n_weights) :: (wI g n_kind 0 12 n_fkind) :: (wI g n_pay 0 12 n_fpay) :: (wI g n_ways 0 12 n_fways) :: (wI g n_held 0 12 n_fheld) :: (wI g n_targets 0 36 n_ftargets) :: (wI g n_weights 0 36 n_fweights) :: (wI g co_place 0 12 opc_102931) :: (wO1 eq eq_rows eq_right oew_102932) :: (wJ g eq_right 1 8 ofr_102933) :: (wR g eq_rows 5 8 (fun i => if i < 8 then some (rr i) else none)) :: (wJ g (rr 0) 1 8 (oct_102937 0)) :: (wJ g (rr 1) 1 8 (oct_102937 1)) :: (wJ g (rr 2) 1 8 (oct_102937 2)) :: (wJ g (rr 3) 1 8 (oct_102937 3)) :: (wJ g (rr 4) 1 8 (oct_102937 4)) :: (wJ g (rr 5) 1 8 (oct_102937 5)) :: (wJ g (rr 6) 1 8 (oct_102937 6)) :: (wJ g (rr 7) 1 8 (oct_102937 7)) :: (wI g oc_plan 0 12 opl_102934) :: (wO10 ow ow_part ovw_102935) :: (wJ g ow_part 1 12 ovp_102936) :: []) := hD
    refine lv_aload_n hx hb dX3_settle_36 rfl (lv_at hl 0 rfl) ?_
    refine va_get (D := D) (ci := 3) (v := .ref sv) (C := RX3) (T := TX3) (N := 10) hx hb hts inlX3 hown hK hP 0 rfl rfl 1 (by decide) (hts (Cond.fieldLink RX3 35 "ChanceRings$Outcome" "solver" "LChanceRings$Solver;") qw_639) (fun _ h9 => h9) rfl dX3_settle_37 ?_
    refine lv_aload_n hx hb dX3_settle_40 rfl (lv_at hl 0 rfl) ?_
    refine va_get (D := D) (ci := 3) (v := .ref ow) (C := RX3) (T := TX3) (N := 10) hx hb hts inlX3 hown hK hP 0 rfl rfl 3 (by decide) (hts (Cond.fieldLink RX3 18 "ChanceRings$Outcome" "worth" "LChanceRings$Values;") qw_652) (fun _ h9 => h9) rfl dX3_settle_41 ?_
    refine lv_aload_n hx hb dX3_settle_44 rfl (lv_at hl 0 rfl) ?_
    refine va_get (D := D) (ci := 3) (v := .ref oc_plan) (C := RX3) (T := TX3) (N := 10) hx hb hts inlX3 hown hK hP 0 rfl rfl 2 (by decide) (hts (Cond.fieldLink RX3 9 "ChanceRings$Outcome" "plan" "[I") qw_641) (fun _ h9 => h9) rfl dX3_settle_45 ?_
    have hPc := hP.sub (ws' := [(wO6 sv n co sv_keep sv_scaled), (wO2 n n_nodes n_kind n_pay n_name n_ways n_held n_targets n_weights), (wI g n_kind 0 12 n_fkind), (wI g n_pay 0 12 n_fpay), (wI g n_ways 0 12 n_fways), (wI g n_held 0 12 n_fheld), (wI g n_targets 0 36 n_ftargets), (wO10 ow ow_part ovw_102935), (wJ g ow_part 1 12 ovp_102936), (wI g sv_keep 0 12 kpf), (wI g oc_plan 0 12 opl_102934)]) [6, 8, 9, 10, 11, 12, 13, 28, 29, 1, 27] rfl
    have hDc := hD.sub (ws' := [(wO6 sv n co sv_keep sv_scaled), (wO2 n n_nodes n_kind n_pay n_name n_ways n_held n_targets n_weights), (wI g n_kind 0 12 n_fkind), (wI g n_pay 0 12 n_fpay), (wI g n_ways 0 12 n_fways), (wI g n_held 0 12 n_fheld), (wI g n_targets 0 36 n_ftargets), (wO10 ow ow_part ovw_102935), (wJ g ow_part 1 12 ovp_102936), (wI g sv_keep 0 12 kpf), (wI g oc_plan 0 12 opl_102934)]) [6, 8, 9, 10, 11, 12, 13, 28, 29, 1, 27] (by decide) rfl
    have hFc := va_free (wc := [(wO6 sv n co sv_keep sv_scaled), (wO2 n n_nodes n_kind n_pay n_name n_ways n_held n_targets n_weights), (wI g n_kind 0 12 n_fkind), (wI g n_pay 0 12 n_fpay), (wI g n_ways 0 12 n_fways), (wI g n_held 0 12 n_fheld), (wI g n_targets 0 36 n_ftargets), (wO10 ow ow_part ovw_102935), (wJ g ow_part 1 12 ovp_102936), (wI g sv_keep 0 12 kpf), (wI g oc_plan 0 12 opl_102934)]) hD hS hA [6, 8, 9, 10, 11, 12, 13, 28, 29, 1, 27] rfl
    refine va_callv (va_runV (As := [.ref ow, .ref oc_plan]) (rest := []) ⟨hx, hb, hml, hown, hts⟩ (c_X6_findBest l D g H.size sv ow oc_plan n co sv_keep sv_scaled n_nodes n_kind n_pay n_name n_ways n_held n_targets n_weights n_fkind n_fpay n_fways n_fheld n_ftargets ow_part ovw_102935 ovp_102936 kpf opl_102934 (tr_w h_n_nodes (by decide) (by decide)) (tr_wa h_n_fkind (by decide) (by decide)) (tr_wa h_n_fways (by decide) (by decide)) (tr_wa h_n_fheld (by decide) (by decide)) (tr_wa h_n_ftargets (by decide) (by decide)) (tr_wa hf_102939 (by decide) (by decide))) (cwV 2 hts (tz_gV qw_676 qw_677 qw_678 qw_558 qw_679) rfl rfl rfl (by decide +kernel) ⟨Nat.le_of_ble_eq_true rfl, Nat.le_of_ble_eq_true rfl⟩) ⟨tz_blQ, va_recv hK hPc (ci := 6) (q0 := 0) rfl rfl, tz_preQ hPc hK hDc⟩ rfl rfl hl.1 rfl (lv_room (Nat.le_of_ble_eq_true rfl)) dX3_settle_48 ⟨Nat.le_of_ble_eq_true rfl, Nat.le_of_ble_eq_true rfl⟩) hS (fun q _ h => hFc q h) hFc (fun u t H1 locs ht hvm hw hB hz1 hk1 hS => ?_)
    obtain ⟨okp_102941, opl_102942, hf_102943, hP1, hD1⟩ := hB
    rw [ht] at hP1
    obtain ⟨hP, hD⟩ := va_join (wr := [(wO3 oc n sv oc_plan ow ol oc_reach oc_ringBits orc orn ose), (wI g oc_reach 0 12 orf), (wI g oc_ringBits 0 12 obf), (wO10 ol ol_part olw), (wJ g ol_part 1 12 olp), (wO0 co n eq co_place), (wI g n_weights 0 36 n_fweights), (wI g co_place 0 12 opc_102931), (wO1 eq eq_rows eq_right oew_102932), (wJ g eq_right 1 8 ofr_102933), (wR g eq_rows 5 8 (fun i => if i < 8 then some (rr i) else none)), (wJ g (rr 0) 1 8 (oct_102937 0)), (wJ g (rr 1) 1 8 (oct_102937 1)), (wJ g (rr 2) 1 8 (oct_102937 2)), (wJ g (rr 3) 1 8 (oct_102937 3)), (wJ g (rr 4) 1 8 (oct_102937 4)), (wJ g (rr 5) 1 8 (oct_102937 5)), (wJ g (rr 6) 1 8 (oct_102937 6)), (wJ g (rr 7) 1 8 (oct_102937 7))]) (w1 := [(wO6 sv n co sv_keep sv_scaled), (wO2 n n_nodes n_kind n_pay n_name n_ways n_held n_targets n_weights), (wI g n_kind 0 12 n_fkind), (wI g n_pay 0 12 n_fpay), (wI g n_ways 0 12 n_fways), (wI g n_held 0 12 n_fheld), (wI g n_targets 0 36 n_ftargets), (wO10 ow ow_part ovw_102935), (wJ g ow_part 1 12 ovp_102936), (wI g sv_keep 0 12 okp_102941), (wI g oc_plan 0 12 opl_102942)]) hP hD [6, 8, 9, 10, 11, 12, 13, 28, 29, 1, 27] [0, 2, 3, 4, 5, 7, 14, 15, 16, 17, 18, 19, 20, 21, 22, 23, 24, 25, 26] rfl rfl (by decide) (by decide) hk1 hFc hP1 hD1
    generalize H1 = H at hP hS ⊢
    have hP : va_P D vwCl ((wO3 oc n sv oc_plan ow ol oc_reach oc_ringBits orc orn ose) :: (wI g oc_reach 0 12 orf) :: (wI g oc_ringBits 0 12 obf) :: (wO10 ol ol_part olw) :: (wJ g ol_part 1 12 olp) :: (wO0 co n eq co_place) :: (wI g n_weights 0 36 n_fweights) :: (wI g co_place 0 12 opc_102931) :: (wO1 eq eq_rows eq_right oew_102932) :: (wJ g eq_right 1 8 ofr_102933) :: (wR g eq_rows 5 8 (fun i => if i < 8 then some (rr i) else none)) :: (wJ g (rr 0) 1 8 (oct_102937 0)) :: (wJ g (rr 1) 1 8 (oct_102937 1)) :: (wJ g (rr 2) 1 8 (oct_102937 2)) :: (wJ g (rr 3) 1 8 (oct_102937 3)) :: (wJ g (rr 4) 1 8 (oct_102937 4)) :: (wJ g (rr 5) 1 8 (oct_102937 5)) :: (wJ g (rr 6) 1 8 (oct_102937 6)) :: (wJ g (rr 7) 1 8 (oct_102937 7)) :: (wO6 sv n co sv_keep sv_scaled) :: (wO2 n n_nodes n_kind n_pay n_name n_ways n_held n_targets n_weights) :: (wI g n_kind 0 12 n_fkind) :: (wI g n_pay 0 12 n_fpay) :: (wI g n_ways 0 12 n_fways) :: (wI g n_held 0 12 n_fheld) :: (wI g n_targets 0 36 n_ftargets) :: (wO10 ow ow_part ovw_102935) :: (wJ g ow_part 1 12 ovp_102936) :: (wI g sv_keep 0 12 okp_102941) :: (wI g oc_plan 0 12 opl_102942) :: []) H := hP
    have hD : va_D A ((wO3 oc n sv oc_plan ow ol oc_reach oc_ringBits orc orn ose) :: (wI g oc_reach 0 12 orf) :: (wI g oc_ringBits 0 12 obf) :: (wO10 ol ol_part olw) :: (wJ g ol_part 1 12 olp) :: (wO0 co n eq co_place) :: (wI g n_weights 0 36 n_fweights) :: (wI g co_place 0 12 opc_102931) :: (wO1 eq eq_rows eq_right oew_102932) :: (wJ g eq_right 1 8 ofr_102933) :: (wR g eq_rows 5 8 (fun i => if i < 8 then some (rr i) else none)) :: (wJ g (rr 0) 1 8 (oct_102937 0)) :: (wJ g (rr 1) 1 8 (oct_102937 1)) :: (wJ g (rr 2) 1 8 (oct_102937 2)) :: (wJ g (rr 3) 1 8 (oct_102937 3)) :: (wJ g (rr 4) 1 8 (oct_102937 4)) :: (wJ g (rr 5) 1 8 (oct_102937 5)) :: (wJ g (rr 6) 1 8 (oct_102937 6)) :: (wJ g (rr 7) 1 8 (oct_102937 7)) :: (wO6 sv n co sv_keep sv_scaled) :: (wO2 n n_nodes n_kind n_pay n_name n_ways n_held n_targets n_weights) :: (wI g n_kind 0 12 n_fkind) :: (wI g n_pay 0 12 n_fpay) :: (wI g n_ways 0 12 n_fways) :: (wI g n_held 0 12 n_fheld) :: (wI g n_targets 0 36 n_ftargets) :: (wO10 ow ow_part ovw_102935) :: (wJ g ow_part 1 12 ovp_102936) :: (wI g sv_keep 0 12 okp_102941) :: (wI g oc_plan 0 12 opl_102942) :: []) := hD
    refine lv_aload_n hx hb dX3_settle_51 rfl (lv_at hl 0 rfl) ?_
    have hPc := hP.sub (ws' := [(wO3 oc n sv oc_plan ow ol oc_reach oc_ringBits orc orn ose), (wO6 sv n co sv_keep sv_scaled), (wO0 co n eq co_place), (wO2 n n_nodes n_kind n_pay n_name n_ways n_held n_targets n_weights), (wI g n_kind 0 12 n_fkind), (wI g n_ways 0 12 n_fways), (wI g n_targets 0 36 n_ftargets), (wI g n_weights 0 36 n_fweights), (wI g oc_plan 0 12 opl_102942), (wI g oc_reach 0 12 orf)]) [0, 19, 5, 20, 21, 23, 25, 6, 29, 1] rfl
    have hDc := hD.sub (ws' := [(wO3 oc n sv oc_plan ow ol oc_reach oc_ringBits orc orn ose), (wO6 sv n co sv_keep sv_scaled), (wO0 co n eq co_place), (wO2 n n_nodes n_kind n_pay n_name n_ways n_held n_targets n_weights), (wI g n_kind 0 12 n_fkind), (wI g n_ways 0 12 n_fways), (wI g n_targets 0 36 n_ftargets), (wI g n_weights 0 36 n_fweights), (wI g oc_plan 0 12 opl_102942), (wI g oc_reach 0 12 orf)]) [0, 19, 5, 20, 21, 23, 25, 6, 29, 1] (by decide) rfl
    have hFc := va_free (wc := [(wO3 oc n sv oc_plan ow ol oc_reach oc_ringBits orc orn ose), (wO6 sv n co sv_keep sv_scaled), (wO0 co n eq co_place), (wO2 n n_nodes n_kind n_pay n_name n_ways n_held n_targets n_weights), (wI g n_kind 0 12 n_fkind), (wI g n_ways 0 12 n_fways), (wI g n_targets 0 36 n_ftargets), (wI g n_weights 0 36 n_fweights), (wI g oc_plan 0 12 opl_102942), (wI g oc_reach 0 12 orf)]) hD hS hA [0, 19, 5, 20, 21, 23, 25, 6, 29, 1] rfl
    refine va_callv (va_runV (As := []) (rest := []) ⟨hx, hb, hml, hown, hts⟩ (c_X3_findReach l D g H.size oc n sv oc_plan ow ol oc_reach oc_ringBits orc orn ose co sv_keep sv_scaled eq co_place n_nodes n_kind n_pay n_name n_ways n_held n_targets n_weights n_fkind n_fways n_ftargets n_fweights opl_102942 orf (tr_w h_orc (by decide) (by decide)) (tr_w h_102925 (by decide) (by decide)) (tr_w h_n_nodes (by decide) (by decide)) (tr_wa h_n_fkind (by decide) (by decide)) (tr_wa h_n_fways (by decide) (by decide)) (tr_wa h_n_ftargets (by decide) (by decide)) (tr_wa hf_102943 (by decide) (by decide))) (cwV 0 hts (tz_gV qw_680 qw_681 qw_682 qw_649 qw_683) rfl rfl rfl (by decide +kernel) ⟨Nat.le_of_ble_eq_true rfl, Nat.le_of_ble_eq_true rfl⟩) ⟨tz_blQ, va_recv hK hPc (ci := 3) (q0 := 0) rfl rfl, tz_preQ hPc hK hDc⟩ rfl rfl hl.1 rfl (lv_room (Nat.le_of_ble_eq_true rfl)) dX3_settle_52 ⟨Nat.le_of_ble_eq_true rfl, Nat.le_of_ble_eq_true rfl⟩) hS (fun q _ h => hFc q h) hFc (fun u t H1 locs ht hvm hw hB hz1 hk1 hS => ?_)
    obtain ⟨xrf_102945, hP1, hD1⟩ := hB
    rw [ht] at hP1
    obtain ⟨hP, hD⟩ := va_join (wr := [(wI g oc_ringBits 0 12 obf), (wO10 ol ol_part olw), (wJ g ol_part 1 12 olp), (wI g co_place 0 12 opc_102931), (wO1 eq eq_rows eq_right oew_102932), (wJ g eq_right 1 8 ofr_102933), (wR g eq_rows 5 8 (fun i => if i < 8 then some (rr i) else none)), (wJ g (rr 0) 1 8 (oct_102937 0)), (wJ g (rr 1) 1 8 (oct_102937 1)), (wJ g (rr 2) 1 8 (oct_102937 2)), (wJ g (rr 3) 1 8 (oct_102937 3)), (wJ g (rr 4) 1 8 (oct_102937 4)), (wJ g (rr 5) 1 8 (oct_102937 5)), (wJ g (rr 6) 1 8 (oct_102937 6)), (wJ g (rr 7) 1 8 (oct_102937 7)), (wI g n_pay 0 12 n_fpay), (wI g n_held 0 12 n_fheld), (wO10 ow ow_part ovw_102935), (wJ g ow_part 1 12 ovp_102936), (wI g sv_keep 0 12 okp_102941)]) (w1 := [(wO3 oc n sv oc_plan ow ol oc_reach oc_ringBits orc orn ose), (wO6 sv n co sv_keep sv_scaled), (wO0 co n eq co_place), (wO2 n n_nodes n_kind n_pay n_name n_ways n_held n_targets n_weights), (wI g n_kind 0 12 n_fkind), (wI g n_ways 0 12 n_fways), (wI g n_targets 0 36 n_ftargets), (wI g n_weights 0 36 n_fweights), (wI g oc_plan 0 12 opl_102942), (wI g oc_reach 0 12 xrf_102945)]) hP hD [0, 19, 5, 20, 21, 23, 25, 6, 29, 1] [2, 3, 4, 7, 8, 9, 10, 11, 12, 13, 14, 15, 16, 17, 18, 22, 24, 26, 27, 28] rfl rfl (by decide) (by decide) hk1 hFc hP1 hD1
    generalize H1 = H at hP hS ⊢
    have hP : va_P D vwCl ((wI g oc_ringBits 0 12 obf) :: (wO10 ol ol_part olw) :: (wJ g ol_part 1 12 olp) :: (wI g co_place 0 12 opc_102931) :: (wO1 eq eq_rows eq_right oew_102932) :: (wJ g eq_right 1 8 ofr_102933) :: (wR g eq_rows 5 8 (fun i => if i < 8 then some (rr i) else none)) :: (wJ g (rr 0) 1 8 (oct_102937 0)) :: (wJ g (rr 1) 1 8 (oct_102937 1)) :: (wJ g (rr 2) 1 8 (oct_102937 2)) :: (wJ g (rr 3) 1 8 (oct_102937 3)) :: (wJ g (rr 4) 1 8 (oct_102937 4)) :: (wJ g (rr 5) 1 8 (oct_102937 5)) :: (wJ g (rr 6) 1 8 (oct_102937 6)) :: (wJ g (rr 7) 1 8 (oct_102937 7)) :: (wI g n_pay 0 12 n_fpay) :: (wI g n_held 0 12 n_fheld) :: (wO10 ow ow_part ovw_102935) :: (wJ g ow_part 1 12 ovp_102936) :: (wI g sv_keep 0 12 okp_102941) :: (wO3 oc n sv oc_plan ow ol oc_reach oc_ringBits orc orn ose) :: (wO6 sv n co sv_keep sv_scaled) :: (wO0 co n eq co_place) :: (wO2 n n_nodes n_kind n_pay n_name n_ways n_held n_targets n_weights) :: (wI g n_kind 0 12 n_fkind) :: (wI g n_ways 0 12 n_fways) :: (wI g n_targets 0 36 n_ftargets) :: (wI g n_weights 0 36 n_fweights) :: (wI g oc_plan 0 12 opl_102942) :: (wI g oc_reach 0 12 xrf_102945) :: []) H := hP
    have hD : va_D A ((wI g oc_ringBits 0 12 obf) :: (wO10 ol ol_part olw) :: (wJ g ol_part 1 12 olp) :: (wI g co_place 0 12 opc_102931) :: (wO1 eq eq_rows eq_right oew_102932) :: (wJ g eq_right 1 8 ofr_102933) :: (wR g eq_rows 5 8 (fun i => if i < 8 then some (rr i) else none)) :: (wJ g (rr 0) 1 8 (oct_102937 0)) :: (wJ g (rr 1) 1 8 (oct_102937 1)) :: (wJ g (rr 2) 1 8 (oct_102937 2)) :: (wJ g (rr 3) 1 8 (oct_102937 3)) :: (wJ g (rr 4) 1 8 (oct_102937 4)) :: (wJ g (rr 5) 1 8 (oct_102937 5)) :: (wJ g (rr 6) 1 8 (oct_102937 6)) :: (wJ g (rr 7) 1 8 (oct_102937 7)) :: (wI g n_pay 0 12 n_fpay) :: (wI g n_held 0 12 n_fheld) :: (wO10 ow ow_part ovw_102935) :: (wJ g ow_part 1 12 ovp_102936) :: (wI g sv_keep 0 12 okp_102941) :: (wO3 oc n sv oc_plan ow ol oc_reach oc_ringBits orc orn ose) :: (wO6 sv n co sv_keep sv_scaled) :: (wO0 co n eq co_place) :: (wO2 n n_nodes n_kind n_pay n_name n_ways n_held n_targets n_weights) :: (wI g n_kind 0 12 n_fkind) :: (wI g n_ways 0 12 n_fways) :: (wI g n_targets 0 36 n_ftargets) :: (wI g n_weights 0 36 n_fweights) :: (wI g oc_plan 0 12 opl_102942) :: (wI g oc_reach 0 12 xrf_102945) :: []) := hD
    refine lv_aload_n hx hb dX3_settle_55 rfl (lv_at hl 0 rfl) ?_
    have hPc := hP.sub (ws' := [(wO3 oc n sv oc_plan ow ol oc_reach oc_ringBits orc orn ose), (wO2 n n_nodes n_kind n_pay n_name n_ways n_held n_targets n_weights), (wI g n_kind 0 12 n_fkind), (wI g oc_reach 0 12 xrf_102945), (wI g oc_ringBits 0 12 obf)]) [20, 23, 24, 29, 0] rfl
    have hDc := hD.sub (ws' := [(wO3 oc n sv oc_plan ow ol oc_reach oc_ringBits orc orn ose), (wO2 n n_nodes n_kind n_pay n_name n_ways n_held n_targets n_weights), (wI g n_kind 0 12 n_fkind), (wI g oc_reach 0 12 xrf_102945), (wI g oc_ringBits 0 12 obf)]) [20, 23, 24, 29, 0] (by decide) rfl
    have hFc := va_free (wc := [(wO3 oc n sv oc_plan ow ol oc_reach oc_ringBits orc orn ose), (wO2 n n_nodes n_kind n_pay n_name n_ways n_held n_targets n_weights), (wI g n_kind 0 12 n_fkind), (wI g oc_reach 0 12 xrf_102945), (wI g oc_ringBits 0 12 obf)]) hD hS hA [20, 23, 24, 29, 0] rfl
    refine va_callv (va_runV (As := []) (rest := []) ⟨hx, hb, hml, hown, hts⟩ (c_X3_findRings l D g H.size oc n sv oc_plan ow ol oc_reach oc_ringBits orc orn ose n_nodes n_kind n_pay n_name n_ways n_held n_targets n_weights n_fkind xrf_102945 obf (tr_w h_orc (by decide) (by decide)) (tr_w h_102925 (by decide) (by decide)) (tr_w h_n_nodes (by decide) (by decide)) (tr_wa h_n_fkind (by decide) (by decide))) (cwV 0 hts (tz_gV qw_684 qw_685 qw_686 qw_649 qw_687) rfl rfl rfl (by decide +kernel) ⟨Nat.le_of_ble_eq_true rfl, Nat.le_of_ble_eq_true rfl⟩) ⟨tz_blQ, va_recv hK hPc (ci := 3) (q0 := 0) rfl rfl, tz_preQ hPc hK hDc⟩ rfl rfl hl.1 rfl (lv_room (Nat.le_of_ble_eq_true rfl)) dX3_settle_56 ⟨Nat.le_of_ble_eq_true rfl, Nat.le_of_ble_eq_true rfl⟩) hS (fun q _ h => hFc q h) hFc (fun u t H1 locs ht hvm hw hB hz1 hk1 hS => ?_)
    obtain ⟨xrc_102947, xrn_102948, xbf_102949, hf_102950, hP1, hD1⟩ := hB
    rw [ht] at hP1
    obtain ⟨hP, hD⟩ := va_join (wr := [(wO10 ol ol_part olw), (wJ g ol_part 1 12 olp), (wI g co_place 0 12 opc_102931), (wO1 eq eq_rows eq_right oew_102932), (wJ g eq_right 1 8 ofr_102933), (wR g eq_rows 5 8 (fun i => if i < 8 then some (rr i) else none)), (wJ g (rr 0) 1 8 (oct_102937 0)), (wJ g (rr 1) 1 8 (oct_102937 1)), (wJ g (rr 2) 1 8 (oct_102937 2)), (wJ g (rr 3) 1 8 (oct_102937 3)), (wJ g (rr 4) 1 8 (oct_102937 4)), (wJ g (rr 5) 1 8 (oct_102937 5)), (wJ g (rr 6) 1 8 (oct_102937 6)), (wJ g (rr 7) 1 8 (oct_102937 7)), (wI g n_pay 0 12 n_fpay), (wI g n_held 0 12 n_fheld), (wO10 ow ow_part ovw_102935), (wJ g ow_part 1 12 ovp_102936), (wI g sv_keep 0 12 okp_102941), (wO6 sv n co sv_keep sv_scaled), (wO0 co n eq co_place), (wI g n_ways 0 12 n_fways), (wI g n_targets 0 36 n_ftargets), (wI g n_weights 0 36 n_fweights), (wI g oc_plan 0 12 opl_102942)]) (w1 := [(wO3 oc n sv oc_plan ow ol oc_reach oc_ringBits xrc_102947 xrn_102948 ose), (wO2 n n_nodes n_kind n_pay n_name n_ways n_held n_targets n_weights), (wI g n_kind 0 12 n_fkind), (wI g oc_reach 0 12 xrf_102945), (wI g oc_ringBits 0 12 xbf_102949)]) hP hD [20, 23, 24, 29, 0] [1, 2, 3, 4, 5, 6, 7, 8, 9, 10, 11, 12, 13, 14, 15, 16, 17, 18, 19, 21, 22, 25, 26, 27, 28] rfl rfl (by decide) (by decide) hk1 hFc hP1 hD1
    generalize H1 = H at hP hS ⊢
    have hP : va_P D vwCl ((wO10 ol ol_part olw) :: (wJ g ol_part 1 12 olp) :: (wI g co_place 0 12 opc_102931) :: (wO1 eq eq_rows eq_right oew_102932) :: (wJ g eq_right 1 8 ofr_102933) :: (wR g eq_rows 5 8 (fun i => if i < 8 then some (rr i) else none)) :: (wJ g (rr 0) 1 8 (oct_102937 0)) :: (wJ g (rr 1) 1 8 (oct_102937 1)) :: (wJ g (rr 2) 1 8 (oct_102937 2)) :: (wJ g (rr 3) 1 8 (oct_102937 3)) :: (wJ g (rr 4) 1 8 (oct_102937 4)) :: (wJ g (rr 5) 1 8 (oct_102937 5)) :: (wJ g (rr 6) 1 8 (oct_102937 6)) :: (wJ g (rr 7) 1 8 (oct_102937 7)) :: (wI g n_pay 0 12 n_fpay) :: (wI g n_held 0 12 n_fheld) :: (wO10 ow ow_part ovw_102935) :: (wJ g ow_part 1 12 ovp_102936) :: (wI g sv_keep 0 12 okp_102941) :: (wO6 sv n co sv_keep sv_scaled) :: (wO0 co n eq co_place) :: (wI g n_ways 0 12 n_fways) :: (wI g n_targets 0 36 n_ftargets) :: (wI g n_weights 0 36 n_fweights) :: (wI g oc_plan 0 12 opl_102942) :: (wO3 oc n sv oc_plan ow ol oc_reach oc_ringBits xrc_102947 xrn_102948 ose) :: (wO2 n n_nodes n_kind n_pay n_name n_ways n_held n_targets n_weights) :: (wI g n_kind 0 12 n_fkind) :: (wI g oc_reach 0 12 xrf_102945) :: (wI g oc_ringBits 0 12 xbf_102949) :: []) H := hP
    have hD : va_D A ((wO10 ol ol_part olw) :: (wJ g ol_part 1 12 olp) :: (wI g co_place 0 12 opc_102931) :: (wO1 eq eq_rows eq_right oew_102932) :: (wJ g eq_right 1 8 ofr_102933) :: (wR g eq_rows 5 8 (fun i => if i < 8 then some (rr i) else none)) :: (wJ g (rr 0) 1 8 (oct_102937 0)) :: (wJ g (rr 1) 1 8 (oct_102937 1)) :: (wJ g (rr 2) 1 8 (oct_102937 2)) :: (wJ g (rr 3) 1 8 (oct_102937 3)) :: (wJ g (rr 4) 1 8 (oct_102937 4)) :: (wJ g (rr 5) 1 8 (oct_102937 5)) :: (wJ g (rr 6) 1 8 (oct_102937 6)) :: (wJ g (rr 7) 1 8 (oct_102937 7)) :: (wI g n_pay 0 12 n_fpay) :: (wI g n_held 0 12 n_fheld) :: (wO10 ow ow_part ovw_102935) :: (wJ g ow_part 1 12 ovp_102936) :: (wI g sv_keep 0 12 okp_102941) :: (wO6 sv n co sv_keep sv_scaled) :: (wO0 co n eq co_place) :: (wI g n_ways 0 12 n_fways) :: (wI g n_targets 0 36 n_ftargets) :: (wI g n_weights 0 36 n_fweights) :: (wI g oc_plan 0 12 opl_102942) :: (wO3 oc n sv oc_plan ow ol oc_reach oc_ringBits xrc_102947 xrn_102948 ose) :: (wO2 n n_nodes n_kind n_pay n_name n_ways n_held n_targets n_weights) :: (wI g n_kind 0 12 n_fkind) :: (wI g oc_reach 0 12 xrf_102945) :: (wI g oc_ringBits 0 12 xbf_102949) :: []) := hD
    refine lv_iconst (v := 0) hx hb dX3_settle_59 (by decide) ?_
    refine lv_istore_n (lv' := [(1, .int 0), (0, .ref oc)]) hx hb dX3_settle_60 rfl hl (by decide) rfl (fun ls hl => ?_)
    refine lv_iconst (v := 0) hx hb dX3_settle_61 (by decide) ?_
    refine lv_istore_n (lv' := [(2, .int 0), (1, .int 0), (0, .ref oc)]) hx hb dX3_settle_62 rfl hl (by decide) rfl (fun ls hl => ?_)
    have lp_103123 : ∀ (n_103123 : Nat) (x_103121 : Int32) (x_103122 : Int32) (H : Heap) (locs : List Loc) (ls : Array Slot), (0 ≤ (x_103121 : Int32).toInt ∧ (x_103121 : Int32).toInt ≤ 12) → (12 - x_103121.toInt < (n_103123 : Int)) → va_P D vwCl ((wO10 ol ol_part olw) :: (wJ g ol_part 1 12 olp) :: (wI g co_place 0 12 opc_102931) :: (wO1 eq eq_rows eq_right oew_102932) :: (wJ g eq_right 1 8 ofr_102933) :: (wR g eq_rows 5 8 (fun i => if i < 8 then some (rr i) else none)) :: (wJ g (rr 0) 1 8 (oct_102937 0)) :: (wJ g (rr 1) 1 8 (oct_102937 1)) :: (wJ g (rr 2) 1 8 (oct_102937 2)) :: (wJ g (rr 3) 1 8 (oct_102937 3)) :: (wJ g (rr 4) 1 8 (oct_102937 4)) :: (wJ g (rr 5) 1 8 (oct_102937 5)) :: (wJ g (rr 6) 1 8 (oct_102937 6)) :: (wJ g (rr 7) 1 8 (oct_102937 7)) :: (wI g n_pay 0 12 n_fpay) :: (wI g n_held 0 12 n_fheld) :: (wO10 ow ow_part ovw_102935) :: (wJ g ow_part 1 12 ovp_102936) :: (wI g sv_keep 0 12 okp_102941) :: (wO6 sv n co sv_keep sv_scaled) :: (wO0 co n eq co_place) :: (wI g n_ways 0 12 n_fways) :: (wI g n_targets 0 36 n_ftargets) :: (wI g n_weights 0 36 n_fweights) :: (wI g oc_plan 0 12 opl_102942) :: (wO3 oc n sv oc_plan ow ol oc_reach oc_ringBits xrc_102947 xrn_102948 ose) :: (wO2 n n_nodes n_kind n_pay n_name n_ways n_held n_targets n_weights) :: (wI g n_kind 0 12 n_fkind) :: (wI g oc_reach 0 12 xrf_102945) :: (wI g oc_ringBits 0 12 xbf_102949) :: []) H → va_D A ((wO10 ol ol_part olw) :: (wJ g ol_part 1 12 olp) :: (wI g co_place 0 12 opc_102931) :: (wO1 eq eq_rows eq_right oew_102932) :: (wJ g eq_right 1 8 ofr_102933) :: (wR g eq_rows 5 8 (fun i => if i < 8 then some (rr i) else none)) :: (wJ g (rr 0) 1 8 (oct_102937 0)) :: (wJ g (rr 1) 1 8 (oct_102937 1)) :: (wJ g (rr 2) 1 8 (oct_102937 2)) :: (wJ g (rr 3) 1 8 (oct_102937 3)) :: (wJ g (rr 4) 1 8 (oct_102937 4)) :: (wJ g (rr 5) 1 8 (oct_102937 5)) :: (wJ g (rr 6) 1 8 (oct_102937 6)) :: (wJ g (rr 7) 1 8 (oct_102937 7)) :: (wI g n_pay 0 12 n_fpay) :: (wI g n_held 0 12 n_fheld) :: (wO10 ow ow_part ovw_102935) :: (wJ g ow_part 1 12 ovp_102936) :: (wI g sv_keep 0 12 okp_102941) :: (wO6 sv n co sv_keep sv_scaled) :: (wO0 co n eq co_place) :: (wI g n_ways 0 12 n_fways) :: (wI g n_targets 0 36 n_ftargets) :: (wI g n_weights 0 36 n_fweights) :: (wI g oc_plan 0 12 opl_102942) :: (wO3 oc n sv oc_plan ow ol oc_reach oc_ringBits xrc_102947 xrn_102948 ose) :: (wO2 n n_nodes n_kind n_pay n_name n_ways n_held n_targets n_weights) :: (wI g n_kind 0 12 n_fkind) :: (wI g oc_reach 0 12 xrf_102945) :: (wI g oc_ringBits 0 12 xbf_102949) :: []) → va_S A s.heap H locs → lv_has ls 3 [(2, .int x_103121), (1, .int x_103122), (0, .ref oc)] → W p l e (headSpec (.code yX3_settle cX3_settle 3 none :: wsL_law) ({ frames := 6, cells := 0, slots := 0, locals := 158 })).room s m args below meth c H locs 0 0 (MQ below (va_Qv (fun (_ : Unit) => True) (fun _ t => ∃ xrc : Int32, ∃ xrn : Int32, ∃ xse : Int32, ∃ opc : Nat → Int32, ∃ oew : Int64, ∃ ofr : Nat → Int64, ∃ okp : Nat → Int32, ∃ xpf : Nat → Int32, ∃ xrf : Nat → Int32, ∃ xbf : Nat → Int32, ∃ xow : Int64, ∃ xowp : Nat → Int64, ∃ xol : Int64, ∃ xolp : Nat → Int64, ∃ oct : Nat → Nat → Int64, (0 ≤ (xrc : Int32).toInt ∧ (xrc : Int32).toInt ≤ 12) ∧ (0 ≤ (xse : Int32).toInt ∧ (xse : Int32).toInt ≤ 1) ∧ (∀ j : Nat, (-1) ≤ (opc j).toInt ∧ (opc j).toInt ≤ 7) ∧ (∀ j : Nat, 0 ≤ (xpf j).toInt ∧ (xpf j).toInt ≤ 2) ∧ va_P D vwCl ((wO3 oc n sv oc_plan ow ol oc_reach oc_ringBits xrc xrn xse) :: (wO6 sv n co sv_keep sv_scaled) :: (wO0 co n eq co_place) :: (wO2 n n_nodes n_kind n_pay n_name n_ways n_held n_targets n_weights) :: (wI g n_kind 0 12 n_fkind) :: (wI g n_pay 0 12 n_fpay) :: (wI g n_ways 0 12 n_fways) :: (wI g n_held 0 12 n_fheld) :: (wI g n_targets 0 36 n_ftargets) :: (wI g n_weights 0 36 n_fweights) :: (wI g co_place 0 12 opc) :: (wO1 eq eq_rows eq_right oew) :: (wJ g eq_right 1 8 ofr) :: (wR g eq_rows 5 8 (fun i => if i < 8 then some (rr i) else none)) :: (wJ g (rr 0) 1 8 (oct 0)) :: (wJ g (rr 1) 1 8 (oct 1)) :: (wJ g (rr 2) 1 8 (oct 2)) :: (wJ g (rr 3) 1 8 (oct 3)) :: (wJ g (rr 4) 1 8 (oct 4)) :: (wJ g (rr 5) 1 8 (oct 5)) :: (wJ g (rr 6) 1 8 (oct 6)) :: (wJ g (rr 7) 1 8 (oct 7)) :: (wI g sv_keep 0 12 okp) :: (wI g oc_plan 0 12 xpf) :: (wI g oc_reach 0 12 xrf) :: (wI g oc_ringBits 0 12 xbf) :: (wO10 ow ow_part xow) :: (wJ g ow_part 1 12 xowp) :: (wO10 ol ol_part xol) :: (wJ g ol_part 1 12 xolp) :: []) t.heap ∧ va_D A ((wO3 oc n sv oc_plan ow ol oc_reach oc_ringBits xrc xrn xse) :: (wO6 sv n co sv_keep sv_scaled) :: (wO0 co n eq co_place) :: (wO2 n n_nodes n_kind n_pay n_name n_ways n_held n_targets n_weights) :: (wI g n_kind 0 12 n_fkind) :: (wI g n_pay 0 12 n_fpay) :: (wI g n_ways 0 12 n_fways) :: (wI g n_held 0 12 n_fheld) :: (wI g n_targets 0 36 n_ftargets) :: (wI g n_weights 0 36 n_fweights) :: (wI g co_place 0 12 opc) :: (wO1 eq eq_rows eq_right oew) :: (wJ g eq_right 1 8 ofr) :: (wR g eq_rows 5 8 (fun i => if i < 8 then some (rr i) else none)) :: (wJ g (rr 0) 1 8 (oct 0)) :: (wJ g (rr 1) 1 8 (oct 1)) :: (wJ g (rr 2) 1 8 (oct 2)) :: (wJ g (rr 3) 1 8 (oct 3)) :: (wJ g (rr 4) 1 8 (oct 4)) :: (wJ g (rr 5) 1 8 (oct 5)) :: (wJ g (rr 6) 1 8 (oct 6)) :: (wJ g (rr 7) 1 8 (oct 7)) :: (wI g sv_keep 0 12 okp) :: (wI g oc_plan 0 12 xpf) :: (wI g oc_reach 0 12 xrf) :: (wI g oc_ringBits 0 12 xbf) :: (wO10 ow ow_part xow) :: (wJ g ow_part 1 12 xowp) :: (wO10 ol ol_part xol) :: (wJ g ol_part 1 12 xolp) :: [])) A) args s 0 0 A) (F0 m 63 ls []) := by
      intro n_103123
      induction n_103123 with
      | zero =>
        intro x_103121 x_103122 H locs ls h_x_103121 hm_103123 hP hD hS hl
        exfalso; omega
      | succ n_103123 ih_103123 =>
        intro x_103121 x_103122 H locs ls h_x_103121 hm_103123 hP hD hS hl
        refine lv_iload_n hx hb dX3_settle_63 rfl (lv_at hl 0 rfl) ?_
        refine lv_aload_n hx hb dX3_settle_64 rfl (lv_at hl 2 rfl) ?_
        refine va_get (D := D) (ci := 3) (v := .ref n) (C := RX3) (T := TX3) (N := 10) hx hb hts inlX3 hown hK hP 25 rfl rfl 0 (by decide) (hts (Cond.fieldLink RX3 31 "ChanceRings$Outcome" "net" "LChanceRings$Net;") qw_636) (fun _ h9 => h9) rfl dX3_settle_65 ?_
        refine va_get (D := D) (ci := 2) (v := .int n_nodes) (C := RX2) (T := TX2) (N := 8) hx hb hts inlX2 hown hK hP 26 rfl rfl 0 (by decide) (hts (Cond.fieldLink RX3 63 "ChanceRings$Net" "nodes" "I") qw_637) (fun _ h9 => h9) rfl dX3_settle_68 ?_
        refine lv_icmp_ge (tgt := 94) hx hb dX3_settle_71 (by decide) (fun c_103124 => ?_) (fun c_103124 => ?_)
        · skip
          refine lv_aload_n hx hb dX3_settle_94 rfl (lv_at hl 2 rfl) ?_
          refine va_get (D := D) (ci := 3) (v := .ref sv) (C := RX3) (T := TX3) (N := 10) hx hb hts inlX3 hown hK hP 25 rfl rfl 1 (by decide) (hts (Cond.fieldLink RX3 35 "ChanceRings$Outcome" "solver" "LChanceRings$Solver;") qw_639) (fun _ h9 => h9) rfl dX3_settle_95 ?_
          refine va_get (D := D) (ci := 6) (v := .ref co) (C := RX6) (T := TX6) (N := 4) hx hb hts inlX6 hown hK hP 19 rfl rfl 1 (by decide) (hts (Cond.fieldLink RX3 73 "ChanceRings$Solver" "course" "LChanceRings$Course;") qw_640) (fun _ h9 => h9) rfl dX3_settle_98 ?_
          refine lv_aload_n hx hb dX3_settle_101 rfl (lv_at hl 2 rfl) ?_
          refine va_get (D := D) (ci := 3) (v := .ref oc_plan) (C := RX3) (T := TX3) (N := 10) hx hb hts inlX3 hown hK hP 25 rfl rfl 2 (by decide) (hts (Cond.fieldLink RX3 9 "ChanceRings$Outcome" "plan" "[I") qw_641) (fun _ h9 => h9) rfl dX3_settle_102 ?_
          refine lv_iload_n hx hb dX3_settle_105 rfl (lv_at hl 1 rfl) ?_
          refine lv_aload_n hx hb dX3_settle_106 rfl (lv_at hl 2 rfl) ?_
          refine va_get (D := D) (ci := 3) (v := .ref ol) (C := RX3) (T := TX3) (N := 10) hx hb hts inlX3 hown hK hP 25 rfl rfl 4 (by decide) (hts (Cond.fieldLink RX3 22 "ChanceRings$Outcome" "length" "LChanceRings$Values;") qw_688) (fun _ h9 => h9) rfl dX3_settle_107 ?_
          have hPc := hP.sub (ws' := [(wO0 co n eq co_place), (wO2 n n_nodes n_kind n_pay n_name n_ways n_held n_targets n_weights), (wI g n_kind 0 12 n_fkind), (wI g n_pay 0 12 n_fpay), (wI g n_ways 0 12 n_fways), (wI g n_held 0 12 n_fheld), (wI g n_targets 0 36 n_ftargets), (wI g n_weights 0 36 n_fweights), (wI g co_place 0 12 opc_102931), (wO1 eq eq_rows eq_right oew_102932), (wJ g eq_right 1 8 ofr_102933), (wR g eq_rows 5 8 (fun i => if i < 8 then some (rr i) else none)), (wJ g (rr 0) 1 8 (oct_102937 0)), (wJ g (rr 1) 1 8 (oct_102937 1)), (wJ g (rr 2) 1 8 (oct_102937 2)), (wJ g (rr 3) 1 8 (oct_102937 3)), (wJ g (rr 4) 1 8 (oct_102937 4)), (wJ g (rr 5) 1 8 (oct_102937 5)), (wJ g (rr 6) 1 8 (oct_102937 6)), (wJ g (rr 7) 1 8 (oct_102937 7)), (wI g oc_plan 0 12 opl_102942), (wO10 ol ol_part olw), (wJ g ol_part 1 12 olp)]) [20, 26, 27, 14, 21, 15, 22, 23, 2, 3, 4, 5, 6, 7, 8, 9, 10, 11, 12, 13, 24, 0, 1] rfl
          have hDc := hD.sub (ws' := [(wO0 co n eq co_place), (wO2 n n_nodes n_kind n_pay n_name n_ways n_held n_targets n_weights), (wI g n_kind 0 12 n_fkind), (wI g n_pay 0 12 n_fpay), (wI g n_ways 0 12 n_fways), (wI g n_held 0 12 n_fheld), (wI g n_targets 0 36 n_ftargets), (wI g n_weights 0 36 n_fweights), (wI g co_place 0 12 opc_102931), (wO1 eq eq_rows eq_right oew_102932), (wJ g eq_right 1 8 ofr_102933), (wR g eq_rows 5 8 (fun i => if i < 8 then some (rr i) else none)), (wJ g (rr 0) 1 8 (oct_102937 0)), (wJ g (rr 1) 1 8 (oct_102937 1)), (wJ g (rr 2) 1 8 (oct_102937 2)), (wJ g (rr 3) 1 8 (oct_102937 3)), (wJ g (rr 4) 1 8 (oct_102937 4)), (wJ g (rr 5) 1 8 (oct_102937 5)), (wJ g (rr 6) 1 8 (oct_102937 6)), (wJ g (rr 7) 1 8 (oct_102937 7)), (wI g oc_plan 0 12 opl_102942), (wO10 ol ol_part olw), (wJ g ol_part 1 12 olp)]) [20, 26, 27, 14, 21, 15, 22, 23, 2, 3, 4, 5, 6, 7, 8, 9, 10, 11, 12, 13, 24, 0, 1] (by decide) rfl
          have hFc := va_free (wc := [(wO0 co n eq co_place), (wO2 n n_nodes n_kind n_pay n_name n_ways n_held n_targets n_weights), (wI g n_kind 0 12 n_fkind), (wI g n_pay 0 12 n_fpay), (wI g n_ways 0 12 n_fways), (wI g n_held 0 12 n_fheld), (wI g n_targets 0 36 n_ftargets), (wI g n_weights 0 36 n_fweights), (wI g co_place 0 12 opc_102931), (wO1 eq eq_rows eq_right oew_102932), (wJ g eq_right 1 8 ofr_102933), (wR g eq_rows 5 8 (fun i => if i < 8 then some (rr i) else none)), (wJ g (rr 0) 1 8 (oct_102937 0)), (wJ g (rr 1) 1 8 (oct_102937 1)), (wJ g (rr 2) 1 8 (oct_102937 2)), (wJ g (rr 3) 1 8 (oct_102937 3)), (wJ g (rr 4) 1 8 (oct_102937 4)), (wJ g (rr 5) 1 8 (oct_102937 5)), (wJ g (rr 6) 1 8 (oct_102937 6)), (wJ g (rr 7) 1 8 (oct_102937 7)), (wI g oc_plan 0 12 opl_102942), (wO10 ol ol_part olw), (wJ g ol_part 1 12 olp)]) hD hS hA [20, 26, 27, 14, 21, 15, 22, 23, 2, 3, 4, 5, 6, 7, 8, 9, 10, 11, 12, 13, 24, 0, 1] rfl
          refine va_callv (va_runV (As := [.ref oc_plan, .int x_103122, .ref ol]) (rest := []) ⟨hx, hb, hml, hown, hts⟩ (c_X0_expectMoves l D g H.size co oc_plan x_103122 ol n eq co_place n_nodes n_kind n_pay n_name n_ways n_held n_targets n_weights n_fkind n_fpay n_fways n_fheld n_ftargets n_fweights opc_102931 eq_rows eq_right oew_102932 ofr_102933 rr oct_102937 opl_102942 ol_part olw olp (tr_w h_n_nodes (by decide) (by decide)) (tr_wa h_n_fkind (by decide) (by decide)) (tr_wa h_n_fways (by decide) (by decide)) (tr_wa h_n_fheld (by decide) (by decide)) (tr_wa h_n_ftargets (by decide) (by decide)) (tr_wa hf_102938 (by decide) (by decide)) (tr_wa hf_102943 (by decide) (by decide))) (cwV 3 hts (tz_gV qw_689 qw_690 qw_691 qw_490 qw_692) rfl rfl rfl (by decide +kernel) ⟨Nat.le_of_ble_eq_true rfl, Nat.le_of_ble_eq_true rfl⟩) ⟨tz_blQ, va_recv hK hPc (ci := 0) (q0 := 0) rfl rfl, tz_preQ hPc hK hDc⟩ rfl rfl hl.1 rfl (lv_room (Nat.le_of_ble_eq_true rfl)) dX3_settle_110 ⟨Nat.le_of_ble_eq_true rfl, Nat.le_of_ble_eq_true rfl⟩) hS (fun q _ h => hFc q h) hFc (fun u t H1 locs ht hvm hw hB hz1 hk1 hS => ?_)
          obtain ⟨opc_103128, oew_103129, ofr_103130, ovw_103131, ovp_103132, oct_103133, hf_103134, hP1, hD1⟩ := hB
          rw [ht] at hP1
          obtain ⟨hP, hD⟩ := va_join (wr := [(wO10 ow ow_part ovw_102935), (wJ g ow_part 1 12 ovp_102936), (wI g sv_keep 0 12 okp_102941), (wO6 sv n co sv_keep sv_scaled), (wO3 oc n sv oc_plan ow ol oc_reach oc_ringBits xrc_102947 xrn_102948 ose), (wI g oc_reach 0 12 xrf_102945), (wI g oc_ringBits 0 12 xbf_102949)]) (w1 := [(wO0 co n eq co_place), (wO2 n n_nodes n_kind n_pay n_name n_ways n_held n_targets n_weights), (wI g n_kind 0 12 n_fkind), (wI g n_pay 0 12 n_fpay), (wI g n_ways 0 12 n_fways), (wI g n_held 0 12 n_fheld), (wI g n_targets 0 36 n_ftargets), (wI g n_weights 0 36 n_fweights), (wI g co_place 0 12 opc_103128), (wO1 eq eq_rows eq_right oew_103129), (wJ g eq_right 1 8 ofr_103130), (wR g eq_rows 5 8 (fun i => if i < 8 then some (rr i) else none)), (wJ g (rr 0) 1 8 (oct_103133 0)), (wJ g (rr 1) 1 8 (oct_103133 1)), (wJ g (rr 2) 1 8 (oct_103133 2)), (wJ g (rr 3) 1 8 (oct_103133 3)), (wJ g (rr 4) 1 8 (oct_103133 4)), (wJ g (rr 5) 1 8 (oct_103133 5)), (wJ g (rr 6) 1 8 (oct_103133 6)), (wJ g (rr 7) 1 8 (oct_103133 7)), (wI g oc_plan 0 12 opl_102942), (wO10 ol ol_part ovw_103131), (wJ g ol_part 1 12 ovp_103132)]) hP hD [20, 26, 27, 14, 21, 15, 22, 23, 2, 3, 4, 5, 6, 7, 8, 9, 10, 11, 12, 13, 24, 0, 1] [16, 17, 18, 19, 25, 28, 29] rfl rfl (by decide) (by decide) hk1 hFc hP1 hD1
          generalize H1 = H at hP hS ⊢
          have hP : va_P D vwCl ((wO10 ow ow_part ovw_102935) :: (wJ g ow_part 1 12 ovp_102936) :: (wI g sv_keep 0 12 okp_102941) :: (wO6 sv n co sv_keep sv_scaled) :: (wO3 oc n sv oc_plan ow ol oc_reach oc_ringBits xrc_102947 xrn_102948 ose) :: (wI g oc_reach 0 12 xrf_102945) :: (wI g oc_ringBits 0 12 xbf_102949) :: (wO0 co n eq co_place) :: (wO2 n n_nodes n_kind n_pay n_name n_ways n_held n_targets n_weights) :: (wI g n_kind 0 12 n_fkind) :: (wI g n_pay 0 12 n_fpay) :: (wI g n_ways 0 12 n_fways) :: (wI g n_held 0 12 n_fheld) :: (wI g n_targets 0 36 n_ftargets) :: (wI g n_weights 0 36 n_fweights) :: (wI g co_place 0 12 opc_103128) :: (wO1 eq eq_rows eq_right oew_103129) :: (wJ g eq_right 1 8 ofr_103130) :: (wR g eq_rows 5 8 (fun i => if i < 8 then some (rr i) else none)) :: (wJ g (rr 0) 1 8 (oct_103133 0)) :: (wJ g (rr 1) 1 8 (oct_103133 1)) :: (wJ g (rr 2) 1 8 (oct_103133 2)) :: (wJ g (rr 3) 1 8 (oct_103133 3)) :: (wJ g (rr 4) 1 8 (oct_103133 4)) :: (wJ g (rr 5) 1 8 (oct_103133 5)) :: (wJ g (rr 6) 1 8 (oct_103133 6)) :: (wJ g (rr 7) 1 8 (oct_103133 7)) :: (wI g oc_plan 0 12 opl_102942) :: (wO10 ol ol_part ovw_103131) :: (wJ g ol_part 1 12 ovp_103132) :: []) H := hP
          have hD : va_D A ((wO10 ow ow_part ovw_102935) :: (wJ g ow_part 1 12 ovp_102936) :: (wI g sv_keep 0 12 okp_102941) :: (wO6 sv n co sv_keep sv_scaled) :: (wO3 oc n sv oc_plan ow ol oc_reach oc_ringBits xrc_102947 xrn_102948 ose) :: (wI g oc_reach 0 12 xrf_102945) :: (wI g oc_ringBits 0 12 xbf_102949) :: (wO0 co n eq co_place) :: (wO2 n n_nodes n_kind n_pay n_name n_ways n_held n_targets n_weights) :: (wI g n_kind 0 12 n_fkind) :: (wI g n_pay 0 12 n_fpay) :: (wI g n_ways 0 12 n_fways) :: (wI g n_held 0 12 n_fheld) :: (wI g n_targets 0 36 n_ftargets) :: (wI g n_weights 0 36 n_fweights) :: (wI g co_place 0 12 opc_103128) :: (wO1 eq eq_rows eq_right oew_103129) :: (wJ g eq_right 1 8 ofr_103130) :: (wR g eq_rows 5 8 (fun i => if i < 8 then some (rr i) else none)) :: (wJ g (rr 0) 1 8 (oct_103133 0)) :: (wJ g (rr 1) 1 8 (oct_103133 1)) :: (wJ g (rr 2) 1 8 (oct_103133 2)) :: (wJ g (rr 3) 1 8 (oct_103133 3)) :: (wJ g (rr 4) 1 8 (oct_103133 4)) :: (wJ g (rr 5) 1 8 (oct_103133 5)) :: (wJ g (rr 6) 1 8 (oct_103133 6)) :: (wJ g (rr 7) 1 8 (oct_103133 7)) :: (wI g oc_plan 0 12 opl_102942) :: (wO10 ol ol_part ovw_103131) :: (wJ g ol_part 1 12 ovp_103132) :: []) := hD
          refine lv_aload_n hx hb dX3_settle_113 rfl (lv_at hl 2 rfl) ?_
          refine lv_iconst (v := 1) hx hb dX3_settle_114 (by decide) ?_
          refine va_put (D := D) (ci := 3) (v := .int 1) (ty := .boolean) (C := RX3) (T := TX3) (N := 10) hx hb hts inlX3 tyX3 tyX3_ok nmX3 hown hK hP hD hS 4 rfl rfl 9 (by decide) (hts (Cond.fieldLink RX3 39 "ChanceRings$Outcome" "settled" "Z") qw_667) (fun _ h9 => h9) rfl (by decide +kernel) (by decide) rfl (Nat.le_of_ble_eq_true rfl) dX3_settle_115 (fun H locs hP hD hS => ?_)
          have hP : va_P D vwCl ((wO10 ow ow_part ovw_102935) :: (wJ g ow_part 1 12 ovp_102936) :: (wI g sv_keep 0 12 okp_102941) :: (wO6 sv n co sv_keep sv_scaled) :: (wO3 oc n sv oc_plan ow ol oc_reach oc_ringBits xrc_102947 xrn_102948 1) :: (wI g oc_reach 0 12 xrf_102945) :: (wI g oc_ringBits 0 12 xbf_102949) :: (wO0 co n eq co_place) :: (wO2 n n_nodes n_kind n_pay n_name n_ways n_held n_targets n_weights) :: (wI g n_kind 0 12 n_fkind) :: (wI g n_pay 0 12 n_fpay) :: (wI g n_ways 0 12 n_fways) :: (wI g n_held 0 12 n_fheld) :: (wI g n_targets 0 36 n_ftargets) :: (wI g n_weights 0 36 n_fweights) :: (wI g co_place 0 12 opc_103128) :: (wO1 eq eq_rows eq_right oew_103129) :: (wJ g eq_right 1 8 ofr_103130) :: (wR g eq_rows 5 8 (fun i => if i < 8 then some (rr i) else none)) :: (wJ g (rr 0) 1 8 (oct_103133 0)) :: (wJ g (rr 1) 1 8 (oct_103133 1)) :: (wJ g (rr 2) 1 8 (oct_103133 2)) :: (wJ g (rr 3) 1 8 (oct_103133 3)) :: (wJ g (rr 4) 1 8 (oct_103133 4)) :: (wJ g (rr 5) 1 8 (oct_103133 5)) :: (wJ g (rr 6) 1 8 (oct_103133 6)) :: (wJ g (rr 7) 1 8 (oct_103133 7)) :: (wI g oc_plan 0 12 opl_102942) :: (wO10 ol ol_part ovw_103131) :: (wJ g ol_part 1 12 ovp_103132) :: []) H := hP
          have hD : va_D A ((wO10 ow ow_part ovw_102935) :: (wJ g ow_part 1 12 ovp_102936) :: (wI g sv_keep 0 12 okp_102941) :: (wO6 sv n co sv_keep sv_scaled) :: (wO3 oc n sv oc_plan ow ol oc_reach oc_ringBits xrc_102947 xrn_102948 1) :: (wI g oc_reach 0 12 xrf_102945) :: (wI g oc_ringBits 0 12 xbf_102949) :: (wO0 co n eq co_place) :: (wO2 n n_nodes n_kind n_pay n_name n_ways n_held n_targets n_weights) :: (wI g n_kind 0 12 n_fkind) :: (wI g n_pay 0 12 n_fpay) :: (wI g n_ways 0 12 n_fways) :: (wI g n_held 0 12 n_fheld) :: (wI g n_targets 0 36 n_ftargets) :: (wI g n_weights 0 36 n_fweights) :: (wI g co_place 0 12 opc_103128) :: (wO1 eq eq_rows eq_right oew_103129) :: (wJ g eq_right 1 8 ofr_103130) :: (wR g eq_rows 5 8 (fun i => if i < 8 then some (rr i) else none)) :: (wJ g (rr 0) 1 8 (oct_103133 0)) :: (wJ g (rr 1) 1 8 (oct_103133 1)) :: (wJ g (rr 2) 1 8 (oct_103133 2)) :: (wJ g (rr 3) 1 8 (oct_103133 3)) :: (wJ g (rr 4) 1 8 (oct_103133 4)) :: (wJ g (rr 5) 1 8 (oct_103133 5)) :: (wJ g (rr 6) 1 8 (oct_103133 6)) :: (wJ g (rr 7) 1 8 (oct_103133 7)) :: (wI g oc_plan 0 12 opl_102942) :: (wO10 ol ol_part ovw_103131) :: (wJ g ol_part 1 12 ovp_103132) :: []) := hD
          have hP9 := hP.sub (ws' := ((wO3 oc n sv oc_plan ow ol oc_reach oc_ringBits xrc_102947 xrn_102948 1) :: (wO6 sv n co sv_keep sv_scaled) :: (wO0 co n eq co_place) :: (wO2 n n_nodes n_kind n_pay n_name n_ways n_held n_targets n_weights) :: (wI g n_kind 0 12 n_fkind) :: (wI g n_pay 0 12 n_fpay) :: (wI g n_ways 0 12 n_fways) :: (wI g n_held 0 12 n_fheld) :: (wI g n_targets 0 36 n_ftargets) :: (wI g n_weights 0 36 n_fweights) :: (wI g co_place 0 12 opc_103128) :: (wO1 eq eq_rows eq_right oew_103129) :: (wJ g eq_right 1 8 ofr_103130) :: (wR g eq_rows 5 8 (fun i => if i < 8 then some (rr i) else none)) :: (wJ g (rr 0) 1 8 (oct_103133 0)) :: (wJ g (rr 1) 1 8 (oct_103133 1)) :: (wJ g (rr 2) 1 8 (oct_103133 2)) :: (wJ g (rr 3) 1 8 (oct_103133 3)) :: (wJ g (rr 4) 1 8 (oct_103133 4)) :: (wJ g (rr 5) 1 8 (oct_103133 5)) :: (wJ g (rr 6) 1 8 (oct_103133 6)) :: (wJ g (rr 7) 1 8 (oct_103133 7)) :: (wI g sv_keep 0 12 okp_102941) :: (wI g oc_plan 0 12 opl_102942) :: (wI g oc_reach 0 12 xrf_102945) :: (wI g oc_ringBits 0 12 xbf_102949) :: (wO10 ow ow_part ovw_102935) :: (wJ g ow_part 1 12 ovp_102936) :: (wO10 ol ol_part ovw_103131) :: (wJ g ol_part 1 12 ovp_103132) :: [])) [4, 3, 7, 8, 9, 10, 11, 12, 13, 14, 15, 16, 17, 18, 19, 20, 21, 22, 23, 24, 25, 26, 2, 27, 5, 6, 0, 1, 28, 29] rfl
          have hD9 := hD.sub (ws' := ((wO3 oc n sv oc_plan ow ol oc_reach oc_ringBits xrc_102947 xrn_102948 1) :: (wO6 sv n co sv_keep sv_scaled) :: (wO0 co n eq co_place) :: (wO2 n n_nodes n_kind n_pay n_name n_ways n_held n_targets n_weights) :: (wI g n_kind 0 12 n_fkind) :: (wI g n_pay 0 12 n_fpay) :: (wI g n_ways 0 12 n_fways) :: (wI g n_held 0 12 n_fheld) :: (wI g n_targets 0 36 n_ftargets) :: (wI g n_weights 0 36 n_fweights) :: (wI g co_place 0 12 opc_103128) :: (wO1 eq eq_rows eq_right oew_103129) :: (wJ g eq_right 1 8 ofr_103130) :: (wR g eq_rows 5 8 (fun i => if i < 8 then some (rr i) else none)) :: (wJ g (rr 0) 1 8 (oct_103133 0)) :: (wJ g (rr 1) 1 8 (oct_103133 1)) :: (wJ g (rr 2) 1 8 (oct_103133 2)) :: (wJ g (rr 3) 1 8 (oct_103133 3)) :: (wJ g (rr 4) 1 8 (oct_103133 4)) :: (wJ g (rr 5) 1 8 (oct_103133 5)) :: (wJ g (rr 6) 1 8 (oct_103133 6)) :: (wJ g (rr 7) 1 8 (oct_103133 7)) :: (wI g sv_keep 0 12 okp_102941) :: (wI g oc_plan 0 12 opl_102942) :: (wI g oc_reach 0 12 xrf_102945) :: (wI g oc_ringBits 0 12 xbf_102949) :: (wO10 ow ow_part ovw_102935) :: (wJ g ow_part 1 12 ovp_102936) :: (wO10 ol ol_part ovw_103131) :: (wJ g ol_part 1 12 ovp_103132) :: [])) [4, 3, 7, 8, 9, 10, 11, 12, 13, 14, 15, 16, 17, 18, 19, 20, 21, 22, 23, 24, 25, 26, 2, 27, 5, 6, 0, 1, 28, 29] (by decide) rfl
          exact W.vret hx hb hr (fun t ht hW => ⟨⟨(), rfl, trivial, xrc_102947, xrn_102948, 1, opc_103128, oew_103129, ofr_103130, okp_102941, opl_102942, xrf_102945, xbf_102949, ovw_102935, ovp_102936, ovw_103131, ovp_103132, oct_103133, (tr_w hf_102950 (by decide) (by decide)), (⟨by decide, by decide⟩ : 0 ≤ (1 : Int32).toInt ∧ (1 : Int32).toInt ≤ 1), (tr_wa hf_103134 (by decide) (by decide)), (tr_wa hf_102943 (by decide) (by decide)), by rw [ht]; exact hP9, hD9⟩, hS.F ht⟩) hS.2.2 dX3_settle_118
        · skip
          have c_103124_i := Int32.lt_iff_toInt_lt.mp (Int32.not_le.mp c_103124)
          have h_103125 : 0 ≤ (x_103121 : Int32).toInt ∧ (x_103121 : Int32).toInt ≤ 11 := nr_lt_l h_x_103121 h_n_nodes c_103124_i (by decide) (by decide)
          have h_103126 : 1 ≤ (n_nodes : Int32).toInt ∧ (n_nodes : Int32).toInt ≤ 12 := nr_lt_r h_x_103121 h_n_nodes c_103124_i (by decide) (by decide)
          refine lv_aload_n hx hb dX3_settle_74 rfl (lv_at hl 2 rfl) ?_
          refine lv_iload_n hx hb dX3_settle_75 rfl (lv_at hl 0 rfl) ?_
          have hPc := hP.sub (ws' := [(wO3 oc n sv oc_plan ow ol oc_reach oc_ringBits xrc_102947 xrn_102948 ose), (wI g oc_reach 0 12 xrf_102945)]) [25, 28] rfl
          refine vp_callSi (va_Run.run (va_runV (As := [.int x_103121]) (rest := []) ⟨hx, hb, hml, hown, hts⟩ (c_X3_comesToRing l D g oc x_103121 n sv oc_plan ow ol oc_reach oc_ringBits xrc_102947 xrn_102948 ose xrf_102945 (tr_w h_103125 (by decide) (by decide)) (tr_w hf_102950 (by decide) (by decide)) (tr_w h_102925 (by decide) (by decide))) (cwV 1 hts (tz_gV qw_693 qw_694 qw_695 qw_649 qw_696) rfl rfl rfl (by decide +kernel) ⟨Nat.le_of_ble_eq_true rfl, Nat.le_of_ble_eq_true rfl⟩) ⟨tz_blS, va_recv hK hPc (ci := 3) (q0 := 0) rfl rfl, tz_preS hPc hK⟩ rfl rfl hl.1 rfl (lv_room (Nat.le_of_ble_eq_true rfl)) dX3_settle_76 ⟨Nat.le_of_ble_eq_true rfl, Nat.le_of_ble_eq_true rfl⟩)) (fun r_103135 hw => ?_)
          have hw_103136 : 0 ≤ (r_103135 : Int32).toInt ∧ (r_103135 : Int32).toInt ≤ 1 := hw
          refine lv_if_ne (tgt := 88) hx hb dX3_settle_79 (by decide) (fun c_103137 => ?_) (fun c_103137 => ?_)
          · skip
            have c_103137_i : ¬ (r_103135 : Int32).toInt = (0 : Int32).toInt := (fun q => c_103137 (Int32.toInt_inj.mp q))
            have h_103138 : 1 ≤ (r_103135 : Int32).toInt ∧ (r_103135 : Int32).toInt ≤ 1 := nr_ne_l hw_103136 (⟨by decide, by decide⟩ : 0 ≤ (0 : Int32).toInt ∧ (0 : Int32).toInt ≤ 0) c_103137_i (by decide) (by decide)
            obtain ⟨v_103140, v_103140_e⟩ : ∃ y : Int32, y = x_103121 + Int32.ofInt 1 := ⟨_, rfl⟩
            have h_v_103140 : 1 ≤ (v_103140 : Int32).toInt ∧ (v_103140 : Int32).toInt ≤ 12 := by rw [v_103140_e]; exact tr_add h_103125 (⟨by decide, by decide⟩ : 1 ≤ (Int32.ofInt 1 : Int32).toInt ∧ (Int32.ofInt 1 : Int32).toInt ≤ 1) (by decide) (by decide) (by decide) (by decide)
            have q_v_103140 : v_103140.toInt = x_103121.toInt + 1 := by rw [v_103140_e]; exact tr_addE h_103125 (⟨by decide, by decide⟩ : 1 ≤ (Int32.ofInt 1 : Int32).toInt ∧ (Int32.ofInt 1 : Int32).toInt ≤ 1) (by decide) (by decide)
            refine lv_iinc (v := v_103140) (lv' := [(2, .int v_103140), (1, .int x_103122), (0, .ref oc)]) hx hb dX3_settle_88 hl (k := 0) rfl v_103140_e.symm (by decide) rfl (fun ls hl => ?_)
            refine lv_goto (tgt := 63) hx hb dX3_settle_91 (by decide) ?_
            exact ih_103123 v_103140 x_103122 H _ ls (tr_w h_v_103140 (by decide) (by decide)) (by (first | (clear h_orc hw_103136 c_103137_i h_103138; omega) | omega)) (hP.sub [0, 1, 2, 3, 4, 5, 6, 7, 8, 9, 10, 11, 12, 13, 14, 15, 16, 17, 18, 19, 20, 21, 22, 23, 24, 25, 26, 27, 28, 29] rfl) (hD.sub [0, 1, 2, 3, 4, 5, 6, 7, 8, 9, 10, 11, 12, 13, 14, 15, 16, 17, 18, 19, 20, 21, 22, 23, 24, 25, 26, 27, 28, 29] (by decide) rfl) hS (lv_sub hl [0, 1, 2] rfl)
          · skip
            have c_103137_i : (r_103135 : Int32).toInt = (0 : Int32).toInt := congrArg Int32.toInt c_103137
            have h_103139 : 0 ≤ (r_103135 : Int32).toInt ∧ (r_103135 : Int32).toInt ≤ 0 := nr_eq_l hw_103136 (⟨by decide, by decide⟩ : 0 ≤ (0 : Int32).toInt ∧ (0 : Int32).toInt ≤ 0) c_103137_i (by decide) (by decide)
            refine lv_iload_n hx hb dX3_settle_82 rfl (lv_at hl 1 rfl) ?_
            refine lv_iconst (v := 1) hx hb dX3_settle_83 (by decide) ?_
            refine lv_iload_n hx hb dX3_settle_84 rfl (lv_at hl 0 rfl) ?_
            refine lv_ishl hx hb dX3_settle_85 ?_
            refine lv_topi (fun v_103141 v_103141_e => ?_)
            refine lv_ior hx hb dX3_settle_86 ?_
            refine lv_topi (fun v_103142 v_103142_e => ?_)
            refine lv_istore_n (lv' := [(1, .int v_103142), (2, .int x_103121), (0, .ref oc)]) hx hb dX3_settle_87 rfl hl (by decide) rfl (fun ls hl => ?_)
            obtain ⟨v_103143, v_103143_e⟩ : ∃ y : Int32, y = x_103121 + Int32.ofInt 1 := ⟨_, rfl⟩
            have h_v_103143 : 1 ≤ (v_103143 : Int32).toInt ∧ (v_103143 : Int32).toInt ≤ 12 := by rw [v_103143_e]; exact tr_add h_103125 (⟨by decide, by decide⟩ : 1 ≤ (Int32.ofInt 1 : Int32).toInt ∧ (Int32.ofInt 1 : Int32).toInt ≤ 1) (by decide) (by decide) (by decide) (by decide)
            have q_v_103143 : v_103143.toInt = x_103121.toInt + 1 := by rw [v_103143_e]; exact tr_addE h_103125 (⟨by decide, by decide⟩ : 1 ≤ (Int32.ofInt 1 : Int32).toInt ∧ (Int32.ofInt 1 : Int32).toInt ≤ 1) (by decide) (by decide)
            refine lv_iinc (v := v_103143) (lv' := [(2, .int v_103143), (1, .int v_103142), (0, .ref oc)]) hx hb dX3_settle_88 hl (k := 1) rfl v_103143_e.symm (by decide) rfl (fun ls hl => ?_)
            refine lv_goto (tgt := 63) hx hb dX3_settle_91 (by decide) ?_
            exact ih_103123 v_103143 v_103142 H _ ls (tr_w h_v_103143 (by decide) (by decide)) (by (first | (clear h_orc hw_103136 c_103137_i h_103139; omega) | omega)) (hP.sub [0, 1, 2, 3, 4, 5, 6, 7, 8, 9, 10, 11, 12, 13, 14, 15, 16, 17, 18, 19, 20, 21, 22, 23, 24, 25, 26, 27, 28, 29] rfl) (hD.sub [0, 1, 2, 3, 4, 5, 6, 7, 8, 9, 10, 11, 12, 13, 14, 15, 16, 17, 18, 19, 20, 21, 22, 23, 24, 25, 26, 27, 28, 29] (by decide) rfl) hS (lv_sub hl [0, 1, 2] rfl)
    exact lp_103123 13 0 0 H _ ls (⟨by decide, by decide⟩ : 0 ≤ (0 : Int32).toInt ∧ (0 : Int32).toInt ≤ 12) (by decide) (hP.sub [0, 1, 2, 3, 4, 5, 6, 7, 8, 9, 10, 11, 12, 13, 14, 15, 16, 17, 18, 19, 20, 21, 22, 23, 24, 25, 26, 27, 28, 29] rfl) (hD.sub [0, 1, 2, 3, 4, 5, 6, 7, 8, 9, 10, 11, 12, 13, 14, 15, 16, 17, 18, 19, 20, 21, 22, 23, 24, 25, 26, 27, 28, 29] (by decide) rfl) hS (lv_sub hl [0, 1, 2] rfl)
  · skip
    have c_102924_i : ¬ (ose : Int32).toInt = (0 : Int32).toInt := (fun q => c_102924 (Int32.toInt_inj.mp q))
    have h_102926 : 1 ≤ (ose : Int32).toInt ∧ (ose : Int32).toInt ≤ 1 := nr_ne_l h_ose (⟨by decide, by decide⟩ : 0 ≤ (0 : Int32).toInt ∧ (0 : Int32).toInt ≤ 0) c_102924_i (by decide) (by decide)
    have hP9 := hP.sub (ws' := ((wO3 oc n sv oc_plan ow ol oc_reach oc_ringBits orc orn ose) :: (wO6 sv n co sv_keep sv_scaled) :: (wO0 co n eq co_place) :: (wO2 n n_nodes n_kind n_pay n_name n_ways n_held n_targets n_weights) :: (wI g n_kind 0 12 n_fkind) :: (wI g n_pay 0 12 n_fpay) :: (wI g n_ways 0 12 n_fways) :: (wI g n_held 0 12 n_fheld) :: (wI g n_targets 0 36 n_ftargets) :: (wI g n_weights 0 36 n_fweights) :: (wI g co_place 0 12 pcf) :: (wO1 eq eq_rows eq_right ew) :: (wJ g eq_right 1 8 fr) :: (wR g eq_rows 5 8 (fun i => if i < 8 then some (rr i) else none)) :: (wJ g (rr 0) 1 8 (ct 0)) :: (wJ g (rr 1) 1 8 (ct 1)) :: (wJ g (rr 2) 1 8 (ct 2)) :: (wJ g (rr 3) 1 8 (ct 3)) :: (wJ g (rr 4) 1 8 (ct 4)) :: (wJ g (rr 5) 1 8 (ct 5)) :: (wJ g (rr 6) 1 8 (ct 6)) :: (wJ g (rr 7) 1 8 (ct 7)) :: (wI g sv_keep 0 12 kpf) :: (wI g oc_plan 0 12 opf) :: (wI g oc_reach 0 12 orf) :: (wI g oc_ringBits 0 12 obf) :: (wO10 ow ow_part oww) :: (wJ g ow_part 1 12 owp) :: (wO10 ol ol_part olw) :: (wJ g ol_part 1 12 olp) :: [])) [0, 1, 2, 3, 4, 5, 6, 7, 8, 9, 10, 11, 12, 13, 14, 15, 16, 17, 18, 19, 20, 21, 22, 23, 24, 25, 26, 27, 28, 29] rfl
    have hD9 := hD.sub (ws' := ((wO3 oc n sv oc_plan ow ol oc_reach oc_ringBits orc orn ose) :: (wO6 sv n co sv_keep sv_scaled) :: (wO0 co n eq co_place) :: (wO2 n n_nodes n_kind n_pay n_name n_ways n_held n_targets n_weights) :: (wI g n_kind 0 12 n_fkind) :: (wI g n_pay 0 12 n_fpay) :: (wI g n_ways 0 12 n_fways) :: (wI g n_held 0 12 n_fheld) :: (wI g n_targets 0 36 n_ftargets) :: (wI g n_weights 0 36 n_fweights) :: (wI g co_place 0 12 pcf) :: (wO1 eq eq_rows eq_right ew) :: (wJ g eq_right 1 8 fr) :: (wR g eq_rows 5 8 (fun i => if i < 8 then some (rr i) else none)) :: (wJ g (rr 0) 1 8 (ct 0)) :: (wJ g (rr 1) 1 8 (ct 1)) :: (wJ g (rr 2) 1 8 (ct 2)) :: (wJ g (rr 3) 1 8 (ct 3)) :: (wJ g (rr 4) 1 8 (ct 4)) :: (wJ g (rr 5) 1 8 (ct 5)) :: (wJ g (rr 6) 1 8 (ct 6)) :: (wJ g (rr 7) 1 8 (ct 7)) :: (wI g sv_keep 0 12 kpf) :: (wI g oc_plan 0 12 opf) :: (wI g oc_reach 0 12 orf) :: (wI g oc_ringBits 0 12 obf) :: (wO10 ow ow_part oww) :: (wJ g ow_part 1 12 owp) :: (wO10 ol ol_part olw) :: (wJ g ol_part 1 12 olp) :: [])) [0, 1, 2, 3, 4, 5, 6, 7, 8, 9, 10, 11, 12, 13, 14, 15, 16, 17, 18, 19, 20, 21, 22, 23, 24, 25, 26, 27, 28, 29] (by decide) rfl
    exact W.vret hx hb hr (fun t ht hW => ⟨⟨(), rfl, trivial, orc, orn, ose, pcf, ew, fr, kpf, opf, orf, obf, oww, owp, olw, olp, ct, (tr_w h_orc (by decide) (by decide)), (tr_w h_102926 (by decide) (by decide)), (tr_wa h_pcf (by decide) (by decide)), (tr_wa h_opf (by decide) (by decide)), by rw [ht]; exact hP9, hD9⟩, hS.F ht⟩) hS.2.2 dX3_settle_7
theorem tx_keepP {D : va_G} {ws : va_W} {H H1 : Heap} (hP : va_P D vwCl ws H) (hk : ∀ q : Nat, q < H.size → H1[q]? = H[q]?) : va_P D vwCl ws H1 := hP.kept (fun k q h => hk q.1 (hP k q h).lt)
theorem tx_F {A : Nat → Prop} {s t : State} {H : Heap} {locs : List Loc} (hS : va_S A s.heap H locs) (hz : H.size ≤ t.heap.size) (hk : ∀ q : Nat, q < H.size → t.heap[q]? = H[q]?) : va_F A s t := ⟨Nat.le_trans hS.1 hz, fun q h1 h2 => (hk q (Nat.lt_of_lt_of_le h1 hS.1)).trans (hS.2.1 q h1 h2)⟩
/-- what a throw needs beside the good words -/
def ZT (A : Nat → Prop) (U : State) (H : Heap) : Prop := vx_Zq Bundle.tN "UNASSIGNED_STACK" Bundle.steD A U H ∧ vx_Zq Bundle.tN "SUPPRESSED_SENTINEL" Bundle.listD A U H ∧ va_Nw (.declares (Bundle.init0 "java/lang/RuntimeException")) U ∧ va_Nw (.declares (Bundle.init0 "java/lang/Exception")) U ∧ va_Nw (.declares (Bundle.init0 Bundle.tN)) U ∧ va_Nw (.castable "java/util/NoSuchElementException" "java/util/NoSuchElementException") U
theorem ZT.same {A : Nat → Prop} {u U : State} {H : Heap} (h : ZT A u H) (e : u.vm = U.vm) : ZT A U H := by
  obtain ⟨h1, h2, h3, h4, h5, h6⟩ := h
  have al : u.vm.Alike U.vm := by rw [e]; exact Vm.Alike.refl _
  exact ⟨vx_Zq.moved al h1, vx_Zq.moved al h2, va_Nw.same rfl e h3, va_Nw.same rfl e h4, va_Nw.same rfl e h5, va_Nw.same rfl e h6⟩
theorem ZT.warm {A : Nat → Prop} {s U : State} {H : Heap} (h : ZT A s H) (hW : s.WarmedH U.vm) : ZT A U H := by
  obtain ⟨h1, h2, h3, h4, h5, h6⟩ := h
  exact ⟨vx_Zq.moved hW.alike h1, vx_Zq.moved hW.alike h2, va_Nw.warmD hW h3, va_Nw.warmD hW h4, va_Nw.warmD hW h5, va_Nw.warmC hW h6⟩
theorem ZT.kept {A B : Nat → Prop} {s : State} {H0 H : Heap} {locs : List Loc} (h : ZT A s H0) (hS : va_S A H0 H locs) (hB : ∀ q, B q → A q) : ZT B s H := by
  obtain ⟨h1, h2, h3⟩ := h
  exact ⟨(h1.kept hS.2.1).narrow hB, (h2.kept hS.2.1).narrow hB, h3⟩
theorem tz_blX {D : va_G} {av : List Value} {w : va_W} {tys : List (ClassId × FieldType)} {sz : Nat} {A : Nat → Prop} : FrameBlind (va_Pc av (fun U => U.heap.size = sz ∧ va_P D vwCl w U.heap ∧ va_K D vwCl tys U ∧ va_D (fun _ => True) w ∧ ZT A U U.heap)) := fun a U g mk q => by
  obtain ⟨q0, q1, qP, qK, qD, qZ⟩ := q
  exact ⟨q0, q1, qP, va_K.moved (u := U) (U := U.calling g mk a) (Vm.Alike.refl U.vm) qK, qD, ZT.same (u := U) (U := U.calling g mk a) qZ rfl⟩
theorem tz_preX {D : va_G} {s : State} {H : Heap} {w : va_W} {tys : List (ClassId × FieldType)} {av : List Value} {A B : Nat → Prop} (hP : va_P D vwCl w H) (hK : va_K D vwCl tys s) (hD : va_D A w) (hZ : ZT B s H) : ∀ U : State, U.heap = H → s.WarmedH U.vm → va_Pc av (fun U => U.heap.size = H.size ∧ va_P D vwCl w U.heap ∧ va_K D vwCl tys U ∧ va_D (fun _ => True) w ∧ ZT B U U.heap) av.toArray U := fun U hU hW => ⟨rfl, by rw [hU], by rw [hU]; exact hP, va_K.moved hW.alike hK, hD.weaken (fun _ _ _ _ => trivial), by rw [hU]; exact hZ.warm hW⟩
theorem tx_x0 : ∀ w ∈ (vx_at0 RX11 137 "java/util/NoSuchElementException" ["java/lang/RuntimeException", "java/lang/Exception"]).filter goodWord, w ∈ lw_tbl := by decide +kernel
theorem tx_x1 : ∀ w ∈ (vx_at0 RX11 137 "java/util/NoSuchElementException" ["java/lang/RuntimeException", "java/lang/Exception"]).filter goodWord, w ∈ wsL_law := fun w h => List.mem_filter.mpr ⟨tx_x0 w h, (List.mem_filter.mp h).2⟩
theorem tx_x2 : ∀ w ∈ (vx_at0 RX11 137 "java/util/NoSuchElementException" ["java/lang/RuntimeException", "java/lang/Exception"]).filter (fun w => !goodWord w), w ∈ ([.declares (Bundle.init0 "java/lang/RuntimeException"), .declares (Bundle.init0 "java/lang/Exception"), .declares (Bundle.init0 Bundle.tN), .castable "java/util/NoSuchElementException" "java/util/NoSuchElementException"] : List Cond) := by decide +kernel
theorem tx_good : ∀ w ∈ Cond.classLink RX11 135 "java/util/NoSuchElementException" :: Cond.initialized "java/util/NoSuchElementException" :: vx_at0 RX11 137 "java/util/NoSuchElementException" ["java/lang/RuntimeException", "java/lang/Exception"], vx_ot w = true := by decide +kernel
theorem tx_at {A : Nat → Prop} {args : Array Value} {s : State} {H : Heap} (hts : ∀ w ∈ wsL_law, w.before args s = true) (hZ : ZT A s H) : ∀ w ∈ vx_at0 RX11 137 "java/util/NoSuchElementException" ["java/lang/RuntimeException", "java/lang/Exception"], w.before args s = true :=
  vx_hat (fun w h => hts w (tx_x1 w h)) tx_x2 (vx_c (va_Nw.use rfl hZ.2.2.1) (vx_c (va_Nw.use rfl hZ.2.2.2.1) (vx_c (va_Nw.use rfl hZ.2.2.2.2.1) (vx_c (va_Nw.use rfl hZ.2.2.2.2.2) vx_n))))
