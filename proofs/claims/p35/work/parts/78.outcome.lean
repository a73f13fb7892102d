theorem qw_636 : Cond.fieldLink RX3 31 "ChanceRings$Outcome" "net" "LChanceRings$Net;" ∈ wsL_law := tseg_2 (by decide +kernel) (List.mem_of_getElem? (i := 101) (by decide +kernel))
theorem qw_637 : Cond.fieldLink RX3 63 "ChanceRings$Net" "nodes" "I" ∈ wsL_law := tseg_1 (by decide +kernel) (List.mem_of_getElem? (i := 59) (by decide +kernel))
theorem qw_638 : Cond.fieldLink RX3 25 "ChanceRings$Outcome" "reach" "[I" ∈ wsL_law := tseg_2 (by decide +kernel) (List.mem_of_getElem? (i := 109) (by decide +kernel))
theorem qw_639 : Cond.fieldLink RX3 35 "ChanceRings$Outcome" "solver" "LChanceRings$Solver;" ∈ wsL_law := tseg_2 (by decide +kernel) (List.mem_of_getElem? (i := 102) (by decide +kernel))
theorem qw_640 : Cond.fieldLink RX3 73 "ChanceRings$Solver" "course" "LChanceRings$Course;" ∈ wsL_law := tseg_2 (by decide +kernel) (List.mem_of_getElem? (i := 63) (by decide +kernel))
theorem qw_641 : Cond.fieldLink RX3 9 "ChanceRings$Outcome" "plan" "[I" ∈ wsL_law := tseg_2 (by decide +kernel) (List.mem_of_getElem? (i := 103) (by decide +kernel))
theorem qw_642 : Cond.methodLink RX3 83 yX0_follow ∈ wsL_law := tseg_3 (by decide +kernel) (List.mem_of_getElem? (i := 204) (by decide +kernel))
theorem qw_643 : Cond.fieldLink RX3 96 "ChanceRings$Net" "kind" "[I" ∈ wsL_law := tseg_1 (by decide +kernel) (List.mem_of_getElem? (i := 67) (by decide +kernel))
theorem qw_644 : Cond.fieldLink RX3 90 "ChanceRings$Outcome" "ringNodes" "I" ∈ wsL_law := tseg_2 (by decide +kernel) (List.mem_of_getElem? (i := 114) (by decide +kernel))
theorem qw_645 : Cond.fieldLink RX3 87 "ChanceRings$Outcome" "ringCount" "I" ∈ wsL_law := tseg_2 (by decide +kernel) (List.mem_of_getElem? (i := 112) (by decide +kernel))
theorem qw_646 : Cond.methodLink RX3 93 yX3_comesBack ∈ wsL_law := tseg_3 (by decide +kernel) (List.mem_of_getElem? (i := 209) (by decide +kernel))
theorem qw_647 : Cond.instanceMethod yX3_comesBack ∈ wsL_law := tseg_3 (by decide +kernel) (List.mem_of_getElem? (i := 211) (by decide +kernel))
theorem qw_648 : Cond.selects RX3 yX3_comesBack yX3_comesBack ∈ wsL_law := List.mem_filter.mpr ⟨List.mem_append_left _ (List.mem_of_getElem? (i := 30) (by decide +kernel)), by decide +kernel⟩
theorem qw_649 : Cond.initialized RX3 ∈ wsL_law := tseg_1 (by decide +kernel) (List.mem_of_getElem? (i := 15) (by decide +kernel))
theorem qw_650 : Cond.code yX3_comesBack cX3_comesBack 3 (some .boolean) ∈ wsL_law := tseg_3 (by decide +kernel) (List.mem_of_getElem? (i := 212) (by decide +kernel))
theorem qw_651 : Cond.fieldLink RX3 28 "ChanceRings$Outcome" "ringBits" "[I" ∈ wsL_law := tseg_2 (by decide +kernel) (List.mem_of_getElem? (i := 110) (by decide +kernel))
theorem qw_652 : Cond.fieldLink RX3 18 "ChanceRings$Outcome" "worth" "LChanceRings$Values;" ∈ wsL_law := tseg_2 (by decide +kernel) (List.mem_of_getElem? (i := 105) (by decide +kernel))
theorem qw_653 : Cond.fieldLink RX3 99 "ChanceRings$Values" "part" "[J" ∈ wsL_law := tseg_2 (by decide +kernel) (List.mem_of_getElem? (i := 89) (by decide +kernel))
theorem qw_654 : Cond.methodLink RX3 103 yX3_countAhead ∈ wsL_law := tseg_4 (by decide +kernel) (List.mem_of_getElem? (i := 97) (by decide +kernel))
theorem qw_655 : Cond.instanceMethod yX3_countAhead ∈ wsL_law := tseg_4 (by decide +kernel) (List.mem_of_getElem? (i := 99) (by decide +kernel))
theorem qw_656 : Cond.selects RX3 yX3_countAhead yX3_countAhead ∈ wsL_law := List.mem_filter.mpr ⟨List.mem_append_left _ (List.mem_of_getElem? (i := 35) (by decide +kernel)), by decide +kernel⟩
theorem qw_657 : Cond.code yX3_countAhead cX3_countAhead 4 (some .int) ∈ wsL_law := tseg_4 (by decide +kernel) (List.mem_of_getElem? (i := 100) (by decide +kernel))
theorem qw_658 : Cond.methodLink RX3 115 yX2_together ∈ wsL_law := tseg_4 (by decide +kernel) (List.mem_of_getElem? (i := 160) (by decide +kernel))
theorem qw_659 : Cond.fieldLink RX3 118 "ChanceRings$Net" "ways" "[I" ∈ wsL_law := tseg_1 (by decide +kernel) (List.mem_of_getElem? (i := 84) (by decide +kernel))
theorem qw_660 : Cond.methodLink RX3 121 yX2_weight ∈ wsL_law := tseg_4 (by decide +kernel) (List.mem_of_getElem? (i := 161) (by decide +kernel))
theorem qw_661 : Cond.methodLink RX3 112 yX2_target ∈ wsL_law := tseg_4 (by decide +kernel) (List.mem_of_getElem? (i := 162) (by decide +kernel))
theorem qw_662 : Cond.constant RX3 107 (1103515245) ∈ wsL_law := tseg_4 (by decide +kernel) (List.mem_of_getElem? (i := 155) (by decide +kernel))
theorem qw_663 : Cond.methodLink RX3 108 yX3_drawnWay ∈ wsL_law := tseg_4 (by decide +kernel) (List.mem_of_getElem? (i := 156) (by decide +kernel))
theorem qw_664 : Cond.instanceMethod yX3_drawnWay ∈ wsL_law := tseg_4 (by decide +kernel) (List.mem_of_getElem? (i := 158) (by decide +kernel))
theorem qw_665 : Cond.selects RX3 yX3_drawnWay yX3_drawnWay ∈ wsL_law := List.mem_filter.mpr ⟨List.mem_append_left _ (List.mem_of_getElem? (i := 41) (by decide +kernel)), by decide +kernel⟩
theorem qw_666 : Cond.code yX3_drawnWay cX3_drawnWay 7 (some .int) ∈ wsL_law := tseg_4 (by decide +kernel) (List.mem_of_getElem? (i := 159) (by decide +kernel))
theorem qw_667 : Cond.fieldLink RX3 39 "ChanceRings$Outcome" "settled" "Z" ∈ wsL_law := tseg_2 (by decide +kernel) (List.mem_of_getElem? (i := 115) (by decide +kernel))
theorem qw_668 : Cond.methodLink RX3 43 yX6_firstWays ∈ wsL_law := tseg_3 (by decide +kernel) (List.mem_of_getElem? (i := 92) (by decide +kernel))
theorem qw_669 : Cond.instanceMethod yX6_firstWays ∈ wsL_law := tseg_3 (by decide +kernel) (List.mem_of_getElem? (i := 69) (by decide +kernel))
theorem qw_670 : Cond.selects RX6 yX6_firstWays yX6_firstWays ∈ wsL_law := tseg_3 (by decide +kernel) (List.mem_of_getElem? (i := 70) (by decide +kernel))
theorem qw_671 : Cond.code yX6_firstWays cX6_firstWays 3 none ∈ wsL_law := tseg_3 (by decide +kernel) (List.mem_of_getElem? (i := 71) (by decide +kernel))
theorem qw_672 : Cond.methodLink RX3 49 yX6_findWorth ∈ wsL_law := tseg_3 (by decide +kernel) (List.mem_of_getElem? (i := 93) (by decide +kernel))
theorem qw_673 : Cond.instanceMethod yX6_findWorth ∈ wsL_law := tseg_3 (by decide +kernel) (List.mem_of_getElem? (i := 94) (by decide +kernel))
theorem qw_674 : Cond.selects RX6 yX6_findWorth yX6_findWorth ∈ wsL_law := tseg_3 (by decide +kernel) (List.mem_of_getElem? (i := 95) (by decide +kernel))
theorem qw_675 : Cond.code yX6_findWorth cX6_findWorth 7 none ∈ wsL_law := tseg_3 (by decide +kernel) (List.mem_of_getElem? (i := 96) (by decide +kernel))
theorem qw_676 : Cond.methodLink RX3 53 yX6_findBest ∈ wsL_law := tseg_3 (by decide +kernel) (List.mem_of_getElem? (i := 176) (by decide +kernel))
theorem qw_677 : Cond.instanceMethod yX6_findBest ∈ wsL_law := tseg_3 (by decide +kernel) (List.mem_of_getElem? (i := 177) (by decide +kernel))
theorem qw_678 : Cond.selects RX6 yX6_findBest yX6_findBest ∈ wsL_law := tseg_3 (by decide +kernel) (List.mem_of_getElem? (i := 178) (by decide +kernel))
theorem qw_679 : Cond.code yX6_findBest cX6_findBest 4 none ∈ wsL_law := tseg_3 (by decide +kernel) (List.mem_of_getElem? (i := 179) (by decide +kernel))
theorem qw_680 : Cond.methodLink RX3 57 yX3_findReach ∈ wsL_law := tseg_3 (by decide +kernel) (List.mem_of_getElem? (i := 200) (by decide +kernel))
theorem qw_681 : Cond.instanceMethod yX3_findReach ∈ wsL_law := tseg_3 (by decide +kernel) (List.mem_of_getElem? (i := 202) (by decide +kernel))
theorem qw_682 : Cond.selects RX3 yX3_findReach yX3_findReach ∈ wsL_law := List.mem_filter.mpr ⟨List.mem_append_left _ (List.mem_of_getElem? (i := 28) (by decide +kernel)), by decide +kernel⟩
theorem qw_683 : Cond.code yX3_findReach cX3_findReach 3 none ∈ wsL_law := tseg_3 (by decide +kernel) (List.mem_of_getElem? (i := 203) (by decide +kernel))
theorem qw_684 : Cond.methodLink RX3 60 yX3_findRings ∈ wsL_law := tseg_3 (by decide +kernel) (List.mem_of_getElem? (i := 205) (by decide +kernel))
theorem qw_685 : Cond.instanceMethod yX3_findRings ∈ wsL_law := tseg_3 (by decide +kernel) (List.mem_of_getElem? (i := 207) (by decide +kernel))
theorem qw_686 : Cond.selects RX3 yX3_findRings yX3_findRings ∈ wsL_law := List.mem_filter.mpr ⟨List.mem_append_left _ (List.mem_of_getElem? (i := 29) (by decide +kernel)), by decide +kernel⟩
theorem qw_687 : Cond.code yX3_findRings cX3_findRings 2 none ∈ wsL_law := tseg_3 (by decide +kernel) (List.mem_of_getElem? (i := 208) (by decide +kernel))
theorem qw_688 : Cond.fieldLink RX3 22 "ChanceRings$Outcome" "length" "LChanceRings$Values;" ∈ wsL_law := tseg_2 (by decide +kernel) (List.mem_of_getElem? (i := 107) (by decide +kernel))
theorem qw_689 : Cond.methodLink RX3 77 yX0_expectMoves ∈ wsL_law := tseg_3 (by decide +kernel) (List.mem_of_getElem? (i := 217) (by decide +kernel))
theorem qw_690 : Cond.instanceMethod yX0_expectMoves ∈ wsL_law := tseg_3 (by decide +kernel) (List.mem_of_getElem? (i := 218) (by decide +kernel))
theorem qw_691 : Cond.selects RX0 yX0_expectMoves yX0_expectMoves ∈ wsL_law := tseg_3 (by decide +kernel) (List.mem_of_getElem? (i := 219) (by decide +kernel))
theorem qw_692 : Cond.code yX0_expectMoves cX0_expectMoves 6 none ∈ wsL_law := tseg_3 (by decide +kernel) (List.mem_of_getElem? (i := 220) (by decide +kernel))
theorem qw_693 : Cond.methodLink RX3 69 yX3_comesToRing ∈ wsL_law := tseg_3 (by decide +kernel) (List.mem_of_getElem? (i := 213) (by decide +kernel))
theorem qw_694 : Cond.instanceMethod yX3_comesToRing ∈ wsL_law := tseg_3 (by decide +kernel) (List.mem_of_getElem? (i := 214) (by decide +kernel))
theorem qw_695 : Cond.selects RX3 yX3_comesToRing yX3_comesToRing ∈ wsL_law := tseg_3 (by decide +kernel) (List.mem_of_getElem? (i := 215) (by decide +kernel))
theorem qw_696 : Cond.code yX3_comesToRing cX3_comesToRing 2 (some .boolean) ∈ wsL_law := tseg_3 (by decide +kernel) (List.mem_of_getElem? (i := 216) (by decide +kernel))
theorem dX3_comesBack_0 : decode cX3_comesBack 0 = .ok (.iconst 0, 1) := by decide +kernel
theorem dX3_comesBack_1 : decode cX3_comesBack 1 = .ok (.istore_n 2, 1) := by decide +kernel
theorem dX3_comesBack_2 : decode cX3_comesBack 2 = .ok (.iload_n 2, 1) := by decide +kernel
theorem dX3_comesBack_3 : decode cX3_comesBack 3 = .ok (.aload_n 0, 1) := by decide +kernel
theorem dX3_comesBack_4 : decode cX3_comesBack 4 = .ok (.getfield 31, 3) := by decide +kernel
theorem dX3_comesBack_7 : decode cX3_comesBack 7 = .ok (.getfield 63, 3) := by decide +kernel
theorem dX3_comesBack_10 : decode cX3_comesBack 10 = .ok (.if_icmp .ge 37, 3) := by decide +kernel
theorem dX3_comesBack_13 : decode cX3_comesBack 13 = .ok (.aload_n 0, 1) := by decide +kernel
theorem dX3_comesBack_14 : decode cX3_comesBack 14 = .ok (.getfield 25, 3) := by decide +kernel
theorem dX3_comesBack_17 : decode cX3_comesBack 17 = .ok (.iload_n 1, 1) := by decide +kernel
theorem dX3_comesBack_18 : decode cX3_comesBack 18 = .ok (.iaload, 1) := by decide +kernel
theorem dX3_comesBack_19 : decode cX3_comesBack 19 = .ok (.iload_n 2, 1) := by decide +kernel
theorem dX3_comesBack_20 : decode cX3_comesBack 20 = .ok (.ishr, 1) := by decide +kernel
theorem dX3_comesBack_21 : decode cX3_comesBack 21 = .ok (.iconst 1, 1) := by decide +kernel
theorem dX3_comesBack_22 : decode cX3_comesBack 22 = .ok (.iand, 1) := by decide +kernel
theorem dX3_comesBack_23 : decode cX3_comesBack 23 = .ok (.ifCond .eq 18, 3) := by decide +kernel
theorem dX3_comesBack_26 : decode cX3_comesBack 26 = .ok (.aload_n 0, 1) := by decide +kernel
theorem dX3_comesBack_27 : decode cX3_comesBack 27 = .ok (.getfield 25, 3) := by decide +kernel
theorem dX3_comesBack_30 : decode cX3_comesBack 30 = .ok (.iload_n 2, 1) := by decide +kernel
theorem dX3_comesBack_31 : decode cX3_comesBack 31 = .ok (.iaload, 1) := by decide +kernel
theorem dX3_comesBack_32 : decode cX3_comesBack 32 = .ok (.iload_n 1, 1) := by decide +kernel
theorem dX3_comesBack_33 : decode cX3_comesBack 33 = .ok (.ishr, 1) := by decide +kernel
theorem dX3_comesBack_34 : decode cX3_comesBack 34 = .ok (.iconst 1, 1) := by decide +kernel
theorem dX3_comesBack_35 : decode cX3_comesBack 35 = .ok (.iand, 1) := by decide +kernel
theorem dX3_comesBack_36 : decode cX3_comesBack 36 = .ok (.ifCond .ne 5, 3) := by decide +kernel
theorem dX3_comesBack_39 : decode cX3_comesBack 39 = .ok (.iconst 0, 1) := by decide +kernel
theorem dX3_comesBack_40 : decode cX3_comesBack 40 = .ok (.ireturn, 1) := by decide +kernel
theorem dX3_comesBack_41 : decode cX3_comesBack 41 = .ok (.iinc 2 1, 3) := by decide +kernel
theorem dX3_comesBack_44 : decode cX3_comesBack 44 = .ok (.goto (-42), 3) := by decide +kernel
theorem dX3_comesBack_47 : decode cX3_comesBack 47 = .ok (.aload_n 0, 1) := by decide +kernel
theorem dX3_comesBack_48 : decode cX3_comesBack 48 = .ok (.getfield 31, 3) := by decide +kernel
theorem dX3_comesBack_51 : decode cX3_comesBack 51 = .ok (.getfield 96, 3) := by decide +kernel
theorem dX3_comesBack_54 : decode cX3_comesBack 54 = .ok (.iload_n 1, 1) := by decide +kernel
theorem dX3_comesBack_55 : decode cX3_comesBack 55 = .ok (.iaload, 1) := by decide +kernel
theorem dX3_comesBack_56 : decode cX3_comesBack 56 = .ok (.ifCond .eq 7, 3) := by decide +kernel
theorem dX3_comesBack_59 : decode cX3_comesBack 59 = .ok (.iconst 1, 1) := by decide +kernel
theorem dX3_comesBack_60 : decode cX3_comesBack 60 = .ok (.goto 4, 3) := by decide +kernel
theorem dX3_comesBack_63 : decode cX3_comesBack 63 = .ok (.iconst 0, 1) := by decide +kernel
theorem dX3_comesBack_64 : decode cX3_comesBack 64 = .ok (.ireturn, 1) := by decide +kernel
theorem dX3_comesToRing_0 : decode cX3_comesToRing 0 = .ok (.aload_n 0, 1) := by decide +kernel
theorem dX3_comesToRing_1 : decode cX3_comesToRing 1 = .ok (.getfield 25, 3) := by decide +kernel
theorem dX3_comesToRing_4 : decode cX3_comesToRing 4 = .ok (.iload_n 1, 1) := by decide +kernel
theorem dX3_comesToRing_5 : decode cX3_comesToRing 5 = .ok (.iaload, 1) := by decide +kernel
theorem dX3_comesToRing_6 : decode cX3_comesToRing 6 = .ok (.aload_n 0, 1) := by decide +kernel
theorem dX3_comesToRing_7 : decode cX3_comesToRing 7 = .ok (.getfield 90, 3) := by decide +kernel
theorem dX3_comesToRing_10 : decode cX3_comesToRing 10 = .ok (.iand, 1) := by decide +kernel
theorem dX3_comesToRing_11 : decode cX3_comesToRing 11 = .ok (.ifCond .eq 7, 3) := by decide +kernel
theorem dX3_comesToRing_14 : decode cX3_comesToRing 14 = .ok (.iconst 1, 1) := by decide +kernel
theorem dX3_comesToRing_15 : decode cX3_comesToRing 15 = .ok (.goto 4, 3) := by decide +kernel
theorem dX3_comesToRing_18 : decode cX3_comesToRing 18 = .ok (.iconst 0, 1) := by decide +kernel
theorem dX3_comesToRing_19 : decode cX3_comesToRing 19 = .ok (.ireturn, 1) := by decide +kernel
theorem dX3_countAhead_0 : decode cX3_countAhead 0 = .ok (.iconst 0, 1) := by decide +kernel
theorem dX3_countAhead_1 : decode cX3_countAhead 1 = .ok (.istore_n 2, 1) := by decide +kernel
theorem dX3_countAhead_2 : decode cX3_countAhead 2 = .ok (.iconst 0, 1) := by decide +kernel
theorem dX3_countAhead_3 : decode cX3_countAhead 3 = .ok (.istore_n 3, 1) := by decide +kernel
theorem dX3_countAhead_4 : decode cX3_countAhead 4 = .ok (.iload_n 3, 1) := by decide +kernel
theorem dX3_countAhead_5 : decode cX3_countAhead 5 = .ok (.aload_n 0, 1) := by decide +kernel
theorem dX3_countAhead_6 : decode cX3_countAhead 6 = .ok (.getfield 31, 3) := by decide +kernel
theorem dX3_countAhead_9 : decode cX3_countAhead 9 = .ok (.getfield 63, 3) := by decide +kernel
theorem dX3_countAhead_12 : decode cX3_countAhead 12 = .ok (.if_icmp .ge 61, 3) := by decide +kernel
theorem dX3_countAhead_15 : decode cX3_countAhead 15 = .ok (.aload_n 0, 1) := by decide +kernel
theorem dX3_countAhead_16 : decode cX3_countAhead 16 = .ok (.getfield 18, 3) := by decide +kernel
theorem dX3_countAhead_19 : decode cX3_countAhead 19 = .ok (.getfield 99, 3) := by decide +kernel
theorem dX3_countAhead_22 : decode cX3_countAhead 22 = .ok (.iload_n 3, 1) := by decide +kernel
theorem dX3_countAhead_23 : decode cX3_countAhead 23 = .ok (.laload, 1) := by decide +kernel
theorem dX3_countAhead_24 : decode cX3_countAhead 24 = .ok (.aload_n 0, 1) := by decide +kernel
theorem dX3_countAhead_25 : decode cX3_countAhead 25 = .ok (.getfield 18, 3) := by decide +kernel
theorem dX3_countAhead_28 : decode cX3_countAhead 28 = .ok (.getfield 99, 3) := by decide +kernel
theorem dX3_countAhead_31 : decode cX3_countAhead 31 = .ok (.iload_n 1, 1) := by decide +kernel
theorem dX3_countAhead_32 : decode cX3_countAhead 32 = .ok (.laload, 1) := by decide +kernel
theorem dX3_countAhead_33 : decode cX3_countAhead 33 = .ok (.lcmp, 1) := by decide +kernel
theorem dX3_countAhead_34 : decode cX3_countAhead 34 = .ok (.ifCond .gt 30, 3) := by decide +kernel
theorem dX3_countAhead_37 : decode cX3_countAhead 37 = .ok (.aload_n 0, 1) := by decide +kernel
theorem dX3_countAhead_38 : decode cX3_countAhead 38 = .ok (.getfield 18, 3) := by decide +kernel
theorem dX3_countAhead_41 : decode cX3_countAhead 41 = .ok (.getfield 99, 3) := by decide +kernel
theorem dX3_countAhead_44 : decode cX3_countAhead 44 = .ok (.iload_n 3, 1) := by decide +kernel
theorem dX3_countAhead_45 : decode cX3_countAhead 45 = .ok (.laload, 1) := by decide +kernel
theorem dX3_countAhead_46 : decode cX3_countAhead 46 = .ok (.aload_n 0, 1) := by decide +kernel
theorem dX3_countAhead_47 : decode cX3_countAhead 47 = .ok (.getfield 18, 3) := by decide +kernel
theorem dX3_countAhead_50 : decode cX3_countAhead 50 = .ok (.getfield 99, 3) := by decide +kernel
theorem dX3_countAhead_53 : decode cX3_countAhead 53 = .ok (.iload_n 1, 1) := by decide +kernel
theorem dX3_countAhead_54 : decode cX3_countAhead 54 = .ok (.laload, 1) := by decide +kernel
theorem dX3_countAhead_55 : decode cX3_countAhead 55 = .ok (.lcmp, 1) := by decide +kernel
theorem dX3_countAhead_56 : decode cX3_countAhead 56 = .ok (.ifCond .ne 11, 3) := by decide +kernel
theorem dX3_countAhead_59 : decode cX3_countAhead 59 = .ok (.iload_n 3, 1) := by decide +kernel
theorem dX3_countAhead_60 : decode cX3_countAhead 60 = .ok (.iload_n 1, 1) := by decide +kernel
theorem dX3_countAhead_61 : decode cX3_countAhead 61 = .ok (.if_icmp .ge 6, 3) := by decide +kernel
theorem dX3_countAhead_64 : decode cX3_countAhead 64 = .ok (.iinc 2 1, 3) := by decide +kernel
theorem dX3_countAhead_67 : decode cX3_countAhead 67 = .ok (.iinc 3 1, 3) := by decide +kernel
theorem dX3_countAhead_70 : decode cX3_countAhead 70 = .ok (.goto (-66), 3) := by decide +kernel
theorem dX3_countAhead_73 : decode cX3_countAhead 73 = .ok (.iload_n 2, 1) := by decide +kernel
theorem dX3_countAhead_74 : decode cX3_countAhead 74 = .ok (.ireturn, 1) := by decide +kernel
theorem dX3_drawnWay_0 : decode cX3_drawnWay 0 = .ok (.aload_n 0, 1) := by decide +kernel
theorem dX3_drawnWay_1 : decode cX3_drawnWay 1 = .ok (.getfield 31, 3) := by decide +kernel
theorem dX3_drawnWay_4 : decode cX3_drawnWay 4 = .ok (.iload_n 1, 1) := by decide +kernel
theorem dX3_drawnWay_5 : decode cX3_drawnWay 5 = .ok (.invokevirtual 115, 3) := by decide +kernel
theorem dX3_drawnWay_8 : decode cX3_drawnWay 8 = .ok (.istore_n 3, 1) := by decide +kernel
theorem dX3_drawnWay_9 : decode cX3_drawnWay 9 = .ok (.iload_n 3, 1) := by decide +kernel
theorem dX3_drawnWay_10 : decode cX3_drawnWay 10 = .ok (.ifCond .ne 7, 3) := by decide +kernel
theorem dX3_drawnWay_13 : decode cX3_drawnWay 13 = .ok (.iconst 0, 1) := by decide +kernel
theorem dX3_drawnWay_14 : decode cX3_drawnWay 14 = .ok (.goto 6, 3) := by decide +kernel
theorem dX3_drawnWay_17 : decode cX3_drawnWay 17 = .ok (.iload_n 2, 1) := by decide +kernel
theorem dX3_drawnWay_18 : decode cX3_drawnWay 18 = .ok (.iload_n 3, 1) := by decide +kernel
theorem dX3_drawnWay_19 : decode cX3_drawnWay 19 = .ok (.irem, 1) := by decide +kernel
theorem dX3_drawnWay_20 : decode cX3_drawnWay 20 = .ok (.istore 4, 2) := by decide +kernel
theorem dX3_drawnWay_22 : decode cX3_drawnWay 22 = .ok (.iconst 0, 1) := by decide +kernel
theorem dX3_drawnWay_23 : decode cX3_drawnWay 23 = .ok (.istore 5, 2) := by decide +kernel
theorem dX3_drawnWay_25 : decode cX3_drawnWay 25 = .ok (.iconst 0, 1) := by decide +kernel
theorem dX3_drawnWay_26 : decode cX3_drawnWay 26 = .ok (.istore 6, 2) := by decide +kernel
theorem dX3_drawnWay_28 : decode cX3_drawnWay 28 = .ok (.iload 6, 2) := by decide +kernel
theorem dX3_drawnWay_30 : decode cX3_drawnWay 30 = .ok (.aload_n 0, 1) := by decide +kernel
theorem dX3_drawnWay_31 : decode cX3_drawnWay 31 = .ok (.getfield 31, 3) := by decide +kernel
theorem dX3_drawnWay_34 : decode cX3_drawnWay 34 = .ok (.getfield 118, 3) := by decide +kernel
theorem dX3_drawnWay_37 : decode cX3_drawnWay 37 = .ok (.iload_n 1, 1) := by decide +kernel
theorem dX3_drawnWay_38 : decode cX3_drawnWay 38 = .ok (.iaload, 1) := by decide +kernel
theorem dX3_drawnWay_39 : decode cX3_drawnWay 39 = .ok (.if_icmp .ge 34, 3) := by decide +kernel
theorem dX3_drawnWay_42 : decode cX3_drawnWay 42 = .ok (.iload 5, 2) := by decide +kernel
theorem dX3_drawnWay_44 : decode cX3_drawnWay 44 = .ok (.aload_n 0, 1) := by decide +kernel
theorem dX3_drawnWay_45 : decode cX3_drawnWay 45 = .ok (.getfield 31, 3) := by decide +kernel
theorem dX3_drawnWay_48 : decode cX3_drawnWay 48 = .ok (.iload_n 1, 1) := by decide +kernel
theorem dX3_drawnWay_49 : decode cX3_drawnWay 49 = .ok (.iload 6, 2) := by decide +kernel
theorem dX3_drawnWay_51 : decode cX3_drawnWay 51 = .ok (.invokevirtual 121, 3) := by decide +kernel
theorem dX3_drawnWay_54 : decode cX3_drawnWay 54 = .ok (.iadd, 1) := by decide +kernel
theorem dX3_drawnWay_55 : decode cX3_drawnWay 55 = .ok (.istore 5, 2) := by decide +kernel
theorem dX3_drawnWay_57 : decode cX3_drawnWay 57 = .ok (.iload 5, 2) := by decide +kernel
theorem dX3_drawnWay_59 : decode cX3_drawnWay 59 = .ok (.iload 4, 2) := by decide +kernel
theorem dX3_drawnWay_61 : decode cX3_drawnWay 61 = .ok (.if_icmp .le 6, 3) := by decide +kernel
theorem dX3_drawnWay_64 : decode cX3_drawnWay 64 = .ok (.iload 6, 2) := by decide +kernel
theorem dX3_drawnWay_66 : decode cX3_drawnWay 66 = .ok (.ireturn, 1) := by decide +kernel
theorem dX3_drawnWay_67 : decode cX3_drawnWay 67 = .ok (.iinc 6 1, 3) := by decide +kernel
theorem dX3_drawnWay_70 : decode cX3_drawnWay 70 = .ok (.goto (-42), 3) := by decide +kernel
theorem dX3_drawnWay_73 : decode cX3_drawnWay 73 = .ok (.iconst 0, 1) := by decide +kernel
theorem dX3_drawnWay_74 : decode cX3_drawnWay 74 = .ok (.ireturn, 1) := by decide +kernel
theorem dX3_findReach_0 : decode cX3_findReach 0 = .ok (.iconst 0, 1) := by decide +kernel
theorem dX3_findReach_1 : decode cX3_findReach 1 = .ok (.istore_n 1, 1) := by decide +kernel
theorem dX3_findReach_2 : decode cX3_findReach 2 = .ok (.iload_n 1, 1) := by decide +kernel
theorem dX3_findReach_3 : decode cX3_findReach 3 = .ok (.aload_n 0, 1) := by decide +kernel
theorem dX3_findReach_4 : decode cX3_findReach 4 = .ok (.getfield 31, 3) := by decide +kernel
theorem dX3_findReach_7 : decode cX3_findReach 7 = .ok (.getfield 63, 3) := by decide +kernel
theorem dX3_findReach_10 : decode cX3_findReach 10 = .ok (.if_icmp .ge 34, 3) := by decide +kernel
theorem dX3_findReach_13 : decode cX3_findReach 13 = .ok (.aload_n 0, 1) := by decide +kernel
theorem dX3_findReach_14 : decode cX3_findReach 14 = .ok (.getfield 25, 3) := by decide +kernel
theorem dX3_findReach_17 : decode cX3_findReach 17 = .ok (.iload_n 1, 1) := by decide +kernel
theorem dX3_findReach_18 : decode cX3_findReach 18 = .ok (.iconst 1, 1) := by decide +kernel
theorem dX3_findReach_19 : decode cX3_findReach 19 = .ok (.iload_n 1, 1) := by decide +kernel
theorem dX3_findReach_20 : decode cX3_findReach 20 = .ok (.ishl, 1) := by decide +kernel
theorem dX3_findReach_21 : decode cX3_findReach 21 = .ok (.aload_n 0, 1) := by decide +kernel
theorem dX3_findReach_22 : decode cX3_findReach 22 = .ok (.getfield 35, 3) := by decide +kernel
theorem dX3_findReach_25 : decode cX3_findReach 25 = .ok (.getfield 73, 3) := by decide +kernel
theorem dX3_findReach_28 : decode cX3_findReach 28 = .ok (.aload_n 0, 1) := by decide +kernel
theorem dX3_findReach_29 : decode cX3_findReach 29 = .ok (.getfield 9, 3) := by decide +kernel
theorem dX3_findReach_32 : decode cX3_findReach 32 = .ok (.iload_n 1, 1) := by decide +kernel
theorem dX3_findReach_33 : decode cX3_findReach 33 = .ok (.invokevirtual 83, 3) := by decide +kernel
theorem dX3_findReach_36 : decode cX3_findReach 36 = .ok (.ior, 1) := by decide +kernel
theorem dX3_findReach_37 : decode cX3_findReach 37 = .ok (.iastore, 1) := by decide +kernel
theorem dX3_findReach_38 : decode cX3_findReach 38 = .ok (.iinc 1 1, 3) := by decide +kernel
theorem dX3_findReach_41 : decode cX3_findReach 41 = .ok (.goto (-39), 3) := by decide +kernel
theorem dX3_findReach_44 : decode cX3_findReach 44 = .ok (.iconst 0, 1) := by decide +kernel
theorem dX3_findReach_45 : decode cX3_findReach 45 = .ok (.istore_n 1, 1) := by decide +kernel
theorem dX3_findReach_46 : decode cX3_findReach 46 = .ok (.iload_n 1, 1) := by decide +kernel
theorem dX3_findReach_47 : decode cX3_findReach 47 = .ok (.aload_n 0, 1) := by decide +kernel
theorem dX3_findReach_48 : decode cX3_findReach 48 = .ok (.getfield 31, 3) := by decide +kernel
theorem dX3_findReach_51 : decode cX3_findReach 51 = .ok (.getfield 63, 3) := by decide +kernel
theorem dX3_findReach_54 : decode cX3_findReach 54 = .ok (.if_icmp .ge 56, 3) := by decide +kernel
theorem dX3_findReach_57 : decode cX3_findReach 57 = .ok (.iconst 0, 1) := by decide +kernel
theorem dX3_findReach_58 : decode cX3_findReach 58 = .ok (.istore_n 2, 1) := by decide +kernel
theorem dX3_findReach_59 : decode cX3_findReach 59 = .ok (.iload_n 2, 1) := by decide +kernel
theorem dX3_findReach_60 : decode cX3_findReach 60 = .ok (.aload_n 0, 1) := by decide +kernel
theorem dX3_findReach_61 : decode cX3_findReach 61 = .ok (.getfield 31, 3) := by decide +kernel
theorem dX3_findReach_64 : decode cX3_findReach 64 = .ok (.getfield 63, 3) := by decide +kernel
theorem dX3_findReach_67 : decode cX3_findReach 67 = .ok (.if_icmp .ge 37, 3) := by decide +kernel
theorem dX3_findReach_70 : decode cX3_findReach 70 = .ok (.aload_n 0, 1) := by decide +kernel
theorem dX3_findReach_71 : decode cX3_findReach 71 = .ok (.getfield 25, 3) := by decide +kernel
theorem dX3_findReach_74 : decode cX3_findReach 74 = .ok (.iload_n 2, 1) := by decide +kernel
theorem dX3_findReach_75 : decode cX3_findReach 75 = .ok (.iaload, 1) := by decide +kernel
theorem dX3_findReach_76 : decode cX3_findReach 76 = .ok (.iload_n 1, 1) := by decide +kernel
theorem dX3_findReach_77 : decode cX3_findReach 77 = .ok (.ishr, 1) := by decide +kernel
theorem dX3_findReach_78 : decode cX3_findReach 78 = .ok (.iconst 1, 1) := by decide +kernel
theorem dX3_findReach_79 : decode cX3_findReach 79 = .ok (.iand, 1) := by decide +kernel
theorem dX3_findReach_80 : decode cX3_findReach 80 = .ok (.ifCond .eq 18, 3) := by decide +kernel
theorem dX3_findReach_83 : decode cX3_findReach 83 = .ok (.aload_n 0, 1) := by decide +kernel
theorem dX3_findReach_84 : decode cX3_findReach 84 = .ok (.getfield 25, 3) := by decide +kernel
theorem dX3_findReach_87 : decode cX3_findReach 87 = .ok (.iload_n 2, 1) := by decide +kernel
theorem dX3_findReach_88 : decode cX3_findReach 88 = .ok (.dup2, 1) := by decide +kernel
theorem dX3_findReach_89 : decode cX3_findReach 89 = .ok (.iaload, 1) := by decide +kernel
theorem dX3_findReach_90 : decode cX3_findReach 90 = .ok (.aload_n 0, 1) := by decide +kernel
theorem dX3_findReach_91 : decode cX3_findReach 91 = .ok (.getfield 25, 3) := by decide +kernel
theorem dX3_findReach_94 : decode cX3_findReach 94 = .ok (.iload_n 1, 1) := by decide +kernel
theorem dX3_findReach_95 : decode cX3_findReach 95 = .ok (.iaload, 1) := by decide +kernel
theorem dX3_findReach_96 : decode cX3_findReach 96 = .ok (.ior, 1) := by decide +kernel
theorem dX3_findReach_97 : decode cX3_findReach 97 = .ok (.iastore, 1) := by decide +kernel
theorem dX3_findReach_98 : decode cX3_findReach 98 = .ok (.iinc 2 1, 3) := by decide +kernel
theorem dX3_findReach_101 : decode cX3_findReach 101 = .ok (.goto (-42), 3) := by decide +kernel
theorem dX3_findReach_104 : decode cX3_findReach 104 = .ok (.iinc 1 1, 3) := by decide +kernel
theorem dX3_findReach_107 : decode cX3_findReach 107 = .ok (.goto (-61), 3) := by decide +kernel
theorem dX3_findReach_110 : decode cX3_findReach 110 = .ok (.return_, 1) := by decide +kernel
theorem dX3_findRings_0 : decode cX3_findRings 0 = .ok (.aload_n 0, 1) := by decide +kernel
theorem dX3_findRings_1 : decode cX3_findRings 1 = .ok (.iconst 0, 1) := by decide +kernel
theorem dX3_findRings_2 : decode cX3_findRings 2 = .ok (.putfield 87, 3) := by decide +kernel
theorem dX3_findRings_5 : decode cX3_findRings 5 = .ok (.aload_n 0, 1) := by decide +kernel
theorem dX3_findRings_6 : decode cX3_findRings 6 = .ok (.iconst 0, 1) := by decide +kernel
theorem dX3_findRings_7 : decode cX3_findRings 7 = .ok (.putfield 90, 3) := by decide +kernel
theorem dX3_findRings_10 : decode cX3_findRings 10 = .ok (.iconst 0, 1) := by decide +kernel
theorem dX3_findRings_11 : decode cX3_findRings 11 = .ok (.istore_n 1, 1) := by decide +kernel
theorem dX3_findRings_12 : decode cX3_findRings 12 = .ok (.iload_n 1, 1) := by decide +kernel
theorem dX3_findRings_13 : decode cX3_findRings 13 = .ok (.aload_n 0, 1) := by decide +kernel
theorem dX3_findRings_14 : decode cX3_findRings 14 = .ok (.getfield 31, 3) := by decide +kernel
theorem dX3_findRings_17 : decode cX3_findRings 17 = .ok (.getfield 63, 3) := by decide +kernel
theorem dX3_findRings_20 : decode cX3_findRings 20 = .ok (.if_icmp .ge 68, 3) := by decide +kernel
theorem dX3_findRings_23 : decode cX3_findRings 23 = .ok (.aload_n 0, 1) := by decide +kernel
theorem dX3_findRings_24 : decode cX3_findRings 24 = .ok (.getfield 90, 3) := by decide +kernel
theorem dX3_findRings_27 : decode cX3_findRings 27 = .ok (.iload_n 1, 1) := by decide +kernel
theorem dX3_findRings_28 : decode cX3_findRings 28 = .ok (.ishr, 1) := by decide +kernel
theorem dX3_findRings_29 : decode cX3_findRings 29 = .ok (.iconst 1, 1) := by decide +kernel
theorem dX3_findRings_30 : decode cX3_findRings 30 = .ok (.iand, 1) := by decide +kernel
theorem dX3_findRings_31 : decode cX3_findRings 31 = .ok (.ifCond .ne 51, 3) := by decide +kernel
theorem dX3_findRings_34 : decode cX3_findRings 34 = .ok (.aload_n 0, 1) := by decide +kernel
theorem dX3_findRings_35 : decode cX3_findRings 35 = .ok (.iload_n 1, 1) := by decide +kernel
theorem dX3_findRings_36 : decode cX3_findRings 36 = .ok (.invokevirtual 93, 3) := by decide +kernel
theorem dX3_findRings_39 : decode cX3_findRings 39 = .ok (.ifCond .eq 43, 3) := by decide +kernel
theorem dX3_findRings_42 : decode cX3_findRings 42 = .ok (.aload_n 0, 1) := by decide +kernel
theorem dX3_findRings_43 : decode cX3_findRings 43 = .ok (.getfield 28, 3) := by decide +kernel
theorem dX3_findRings_46 : decode cX3_findRings 46 = .ok (.aload_n 0, 1) := by decide +kernel
theorem dX3_findRings_47 : decode cX3_findRings 47 = .ok (.getfield 87, 3) := by decide +kernel
theorem dX3_findRings_50 : decode cX3_findRings 50 = .ok (.aload_n 0, 1) := by decide +kernel
theorem dX3_findRings_51 : decode cX3_findRings 51 = .ok (.getfield 25, 3) := by decide +kernel
theorem dX3_findRings_54 : decode cX3_findRings 54 = .ok (.iload_n 1, 1) := by decide +kernel
theorem dX3_findRings_55 : decode cX3_findRings 55 = .ok (.iaload, 1) := by decide +kernel
theorem dX3_findRings_56 : decode cX3_findRings 56 = .ok (.iastore, 1) := by decide +kernel
theorem dX3_findRings_57 : decode cX3_findRings 57 = .ok (.aload_n 0, 1) := by decide +kernel
theorem dX3_findRings_58 : decode cX3_findRings 58 = .ok (.dup, 1) := by decide +kernel
theorem dX3_findRings_59 : decode cX3_findRings 59 = .ok (.getfield 90, 3) := by decide +kernel
theorem dX3_findRings_62 : decode cX3_findRings 62 = .ok (.aload_n 0, 1) := by decide +kernel
theorem dX3_findRings_63 : decode cX3_findRings 63 = .ok (.getfield 25, 3) := by decide +kernel
theorem dX3_findRings_66 : decode cX3_findRings 66 = .ok (.iload_n 1, 1) := by decide +kernel
theorem dX3_findRings_67 : decode cX3_findRings 67 = .ok (.iaload, 1) := by decide +kernel
theorem dX3_findRings_68 : decode cX3_findRings 68 = .ok (.ior, 1) := by decide +kernel
theorem dX3_findRings_69 : decode cX3_findRings 69 = .ok (.putfield 90, 3) := by decide +kernel
theorem dX3_findRings_72 : decode cX3_findRings 72 = .ok (.aload_n 0, 1) := by decide +kernel
theorem dX3_findRings_73 : decode cX3_findRings 73 = .ok (.dup, 1) := by decide +kernel
theorem dX3_findRings_74 : decode cX3_findRings 74 = .ok (.getfield 87, 3) := by decide +kernel
theorem dX3_findRings_77 : decode cX3_findRings 77 = .ok (.iconst 1, 1) := by decide +kernel
theorem dX3_findRings_78 : decode cX3_findRings 78 = .ok (.iadd, 1) := by decide +kernel
theorem dX3_findRings_79 : decode cX3_findRings 79 = .ok (.putfield 87, 3) := by decide +kernel
theorem dX3_findRings_82 : decode cX3_findRings 82 = .ok (.iinc 1 1, 3) := by decide +kernel
theorem dX3_findRings_85 : decode cX3_findRings 85 = .ok (.goto (-73), 3) := by decide +kernel
theorem dX3_findRings_88 : decode cX3_findRings 88 = .ok (.return_, 1) := by decide +kernel
theorem dX3_ranked_0 : decode cX3_ranked 0 = .ok (.iconst 0, 1) := by decide +kernel
theorem dX3_ranked_1 : decode cX3_ranked 1 = .ok (.istore_n 2, 1) := by decide +kernel
theorem dX3_ranked_2 : decode cX3_ranked 2 = .ok (.iload_n 2, 1) := by decide +kernel
theorem dX3_ranked_3 : decode cX3_ranked 3 = .ok (.aload_n 0, 1) := by decide +kernel
theorem dX3_ranked_4 : decode cX3_ranked 4 = .ok (.getfield 31, 3) := by decide +kernel
theorem dX3_ranked_7 : decode cX3_ranked 7 = .ok (.getfield 63, 3) := by decide +kernel
theorem dX3_ranked_10 : decode cX3_ranked 10 = .ok (.if_icmp .ge 20, 3) := by decide +kernel
theorem dX3_ranked_13 : decode cX3_ranked 13 = .ok (.aload_n 0, 1) := by decide +kernel
theorem dX3_ranked_14 : decode cX3_ranked 14 = .ok (.iload_n 2, 1) := by decide +kernel
theorem dX3_ranked_15 : decode cX3_ranked 15 = .ok (.invokevirtual 103, 3) := by decide +kernel
theorem dX3_ranked_18 : decode cX3_ranked 18 = .ok (.iload_n 1, 1) := by decide +kernel
theorem dX3_ranked_19 : decode cX3_ranked 19 = .ok (.if_icmp .ne 5, 3) := by decide +kernel
theorem dX3_ranked_22 : decode cX3_ranked 22 = .ok (.iload_n 2, 1) := by decide +kernel
theorem dX3_ranked_23 : decode cX3_ranked 23 = .ok (.ireturn, 1) := by decide +kernel
theorem dX3_ranked_24 : decode cX3_ranked 24 = .ok (.iinc 2 1, 3) := by decide +kernel
theorem dX3_ranked_27 : decode cX3_ranked 27 = .ok (.goto (-25), 3) := by decide +kernel
theorem dX3_ranked_30 : decode cX3_ranked 30 = .ok (.iconst (-1), 1) := by decide +kernel
theorem dX3_ranked_31 : decode cX3_ranked 31 = .ok (.ireturn, 1) := by decide +kernel
theorem dX3_settle_0 : decode cX3_settle 0 = .ok (.aload_n 0, 1) := by decide +kernel
theorem dX3_settle_1 : decode cX3_settle 1 = .ok (.getfield 39, 3) := by decide +kernel
theorem dX3_settle_4 : decode cX3_settle 4 = .ok (.ifCond .eq 4, 3) := by decide +kernel
theorem dX3_settle_7 : decode cX3_settle 7 = .ok (.return_, 1) := by decide +kernel
theorem dX3_settle_8 : decode cX3_settle 8 = .ok (.aload_n 0, 1) := by decide +kernel
theorem dX3_settle_9 : decode cX3_settle 9 = .ok (.getfield 35, 3) := by decide +kernel
theorem dX3_settle_12 : decode cX3_settle 12 = .ok (.aload_n 0, 1) := by decide +kernel
theorem dX3_settle_13 : decode cX3_settle 13 = .ok (.getfield 9, 3) := by decide +kernel
theorem dX3_settle_16 : decode cX3_settle 16 = .ok (.invokevirtual 43, 3) := by decide +kernel
theorem dX3_settle_19 : decode cX3_settle 19 = .ok (.aload_n 0, 1) := by decide +kernel
theorem dX3_settle_20 : decode cX3_settle 20 = .ok (.getfield 35, 3) := by decide +kernel
theorem dX3_settle_23 : decode cX3_settle 23 = .ok (.aload_n 0, 1) := by decide +kernel
theorem dX3_settle_24 : decode cX3_settle 24 = .ok (.getfield 9, 3) := by decide +kernel
theorem dX3_settle_27 : decode cX3_settle 27 = .ok (.iconst 1, 1) := by decide +kernel
theorem dX3_settle_28 : decode cX3_settle 28 = .ok (.iconst 1, 1) := by decide +kernel
theorem dX3_settle_29 : decode cX3_settle 29 = .ok (.aload_n 0, 1) := by decide +kernel
theorem dX3_settle_30 : decode cX3_settle 30 = .ok (.getfield 18, 3) := by decide +kernel
theorem dX3_settle_33 : decode cX3_settle 33 = .ok (.invokevirtual 49, 3) := by decide +kernel
theorem dX3_settle_36 : decode cX3_settle 36 = .ok (.aload_n 0, 1) := by decide +kernel
theorem dX3_settle_37 : decode cX3_settle 37 = .ok (.getfield 35, 3) := by decide +kernel
theorem dX3_settle_40 : decode cX3_settle 40 = .ok (.aload_n 0, 1) := by decide +kernel
theorem dX3_settle_41 : decode cX3_settle 41 = .ok (.getfield 18, 3) := by decide +kernel
theorem dX3_settle_44 : decode cX3_settle 44 = .ok (.aload_n 0, 1) := by decide +kernel
theorem dX3_settle_45 : decode cX3_settle 45 = .ok (.getfield 9, 3) := by decide +kernel
theorem dX3_settle_48 : decode cX3_settle 48 = .ok (.invokevirtual 53, 3) := by decide +kernel
theorem dX3_settle_51 : decode cX3_settle 51 = .ok (.aload_n 0, 1) := by decide +kernel
theorem dX3_settle_52 : decode cX3_settle 52 = .ok (.invokevirtual 57, 3) := by decide +kernel
theorem dX3_settle_55 : decode cX3_settle 55 = .ok (.aload_n 0, 1) := by decide +kernel
theorem dX3_settle_56 : decode cX3_settle 56 = .ok (.invokevirtual 60, 3) := by decide +kernel
theorem dX3_settle_59 : decode cX3_settle 59 = .ok (.iconst 0, 1) := by decide +kernel
theorem dX3_settle_60 : decode cX3_settle 60 = .ok (.istore_n 1, 1) := by decide +kernel
theorem dX3_settle_61 : decode cX3_settle 61 = .ok (.iconst 0, 1) := by decide +kernel
theorem dX3_settle_62 : decode cX3_settle 62 = .ok (.istore_n 2, 1) := by decide +kernel
theorem dX3_settle_63 : decode cX3_settle 63 = .ok (.iload_n 2, 1) := by decide +kernel
theorem dX3_settle_64 : decode cX3_settle 64 = .ok (.aload_n 0, 1) := by decide +kernel
theorem dX3_settle_65 : decode cX3_settle 65 = .ok (.getfield 31, 3) := by decide +kernel
theorem dX3_settle_68 : decode cX3_settle 68 = .ok (.getfield 63, 3) := by decide +kernel
theorem dX3_settle_71 : decode cX3_settle 71 = .ok (.if_icmp .ge 23, 3) := by decide +kernel
theorem dX3_settle_74 : decode cX3_settle 74 = .ok (.aload_n 0, 1) := by decide +kernel
theorem dX3_settle_75 : decode cX3_settle 75 = .ok (.iload_n 2, 1) := by decide +kernel
theorem dX3_settle_76 : decode cX3_settle 76 = .ok (.invokevirtual 69, 3) := by decide +kernel
theorem dX3_settle_79 : decode cX3_settle 79 = .ok (.ifCond .ne 9, 3) := by decide +kernel
theorem dX3_settle_82 : decode cX3_settle 82 = .ok (.iload_n 1, 1) := by decide +kernel
theorem dX3_settle_83 : decode cX3_settle 83 = .ok (.iconst 1, 1) := by decide +kernel
theorem dX3_settle_84 : decode cX3_settle 84 = .ok (.iload_n 2, 1) := by decide +kernel
theorem dX3_settle_85 : decode cX3_settle 85 = .ok (.ishl, 1) := by decide +kernel
theorem dX3_settle_86 : decode cX3_settle 86 = .ok (.ior, 1) := by decide +kernel
theorem dX3_settle_87 : decode cX3_settle 87 = .ok (.istore_n 1, 1) := by decide +kernel
theorem dX3_settle_88 : decode cX3_settle 88 = .ok (.iinc 2 1, 3) := by decide +kernel
theorem dX3_settle_91 : decode cX3_settle 91 = .ok (.goto (-28), 3) := by decide +kernel
theorem dX3_settle_94 : decode cX3_settle 94 = .ok (.aload_n 0, 1) := by decide +kernel
theorem dX3_settle_95 : decode cX3_settle 95 = .ok (.getfield 35, 3) := by decide +kernel
theorem dX3_settle_98 : decode cX3_settle 98 = .ok (.getfield 73, 3) := by decide +kernel
theorem dX3_settle_101 : decode cX3_settle 101 = .ok (.aload_n 0, 1) := by decide +kernel
theorem dX3_settle_102 : decode cX3_settle 102 = .ok (.getfield 9, 3) := by decide +kernel
theorem dX3_settle_105 : decode cX3_settle 105 = .ok (.iload_n 1, 1) := by decide +kernel
theorem dX3_settle_106 : decode cX3_settle 106 = .ok (.aload_n 0, 1) := by decide +kernel
theorem dX3_settle_107 : decode cX3_settle 107 = .ok (.getfield 22, 3) := by decide +kernel
theorem dX3_settle_110 : decode cX3_settle 110 = .ok (.invokevirtual 77, 3) := by decide +kernel
theorem dX3_settle_113 : decode cX3_settle 113 = .ok (.aload_n 0, 1) := by decide +kernel
theorem dX3_settle_114 : decode cX3_settle 114 = .ok (.iconst 1, 1) := by decide +kernel
theorem dX3_settle_115 : decode cX3_settle 115 = .ok (.putfield 39, 3) := by decide +kernel
theorem dX3_settle_118 : decode cX3_settle 118 = .ok (.return_, 1) := by decide +kernel
theorem dX3_walk_0 : decode cX3_walk 0 = .ok (.iload_n 1, 1) := by decide +kernel
theorem dX3_walk_1 : decode cX3_walk 1 = .ok (.istore 4, 2) := by decide +kernel
theorem dX3_walk_3 : decode cX3_walk 3 = .ok (.iload_n 2, 1) := by decide +kernel
theorem dX3_walk_4 : decode cX3_walk 4 = .ok (.istore 5, 2) := by decide +kernel
theorem dX3_walk_6 : decode cX3_walk 6 = .ok (.iconst 0, 1) := by decide +kernel
theorem dX3_walk_7 : decode cX3_walk 7 = .ok (.istore 6, 2) := by decide +kernel
theorem dX3_walk_9 : decode cX3_walk 9 = .ok (.iload 6, 2) := by decide +kernel
theorem dX3_walk_11 : decode cX3_walk 11 = .ok (.iload_n 3, 1) := by decide +kernel
theorem dX3_walk_12 : decode cX3_walk 12 = .ok (.if_icmp .ge 82, 3) := by decide +kernel
theorem dX3_walk_15 : decode cX3_walk 15 = .ok (.aload_n 0, 1) := by decide +kernel
theorem dX3_walk_16 : decode cX3_walk 16 = .ok (.getfield 31, 3) := by decide +kernel
theorem dX3_walk_19 : decode cX3_walk 19 = .ok (.getfield 96, 3) := by decide +kernel
theorem dX3_walk_22 : decode cX3_walk 22 = .ok (.iload 4, 2) := by decide +kernel
theorem dX3_walk_24 : decode cX3_walk 24 = .ok (.iaload, 1) := by decide +kernel
theorem dX3_walk_25 : decode cX3_walk 25 = .ok (.ifCond .eq 69, 3) := by decide +kernel
theorem dX3_walk_28 : decode cX3_walk 28 = .ok (.aload_n 0, 1) := by decide +kernel
theorem dX3_walk_29 : decode cX3_walk 29 = .ok (.getfield 9, 3) := by decide +kernel
theorem dX3_walk_32 : decode cX3_walk 32 = .ok (.iload 4, 2) := by decide +kernel
theorem dX3_walk_34 : decode cX3_walk 34 = .ok (.iaload, 1) := by decide +kernel
theorem dX3_walk_35 : decode cX3_walk 35 = .ok (.istore 7, 2) := by decide +kernel
theorem dX3_walk_37 : decode cX3_walk 37 = .ok (.aload_n 0, 1) := by decide +kernel
theorem dX3_walk_38 : decode cX3_walk 38 = .ok (.getfield 31, 3) := by decide +kernel
theorem dX3_walk_41 : decode cX3_walk 41 = .ok (.getfield 96, 3) := by decide +kernel
theorem dX3_walk_44 : decode cX3_walk 44 = .ok (.iload 4, 2) := by decide +kernel
theorem dX3_walk_46 : decode cX3_walk 46 = .ok (.iaload, 1) := by decide +kernel
theorem dX3_walk_47 : decode cX3_walk 47 = .ok (.iconst 3, 1) := by decide +kernel
theorem dX3_walk_48 : decode cX3_walk 48 = .ok (.if_icmp .ne 27, 3) := by decide +kernel
theorem dX3_walk_51 : decode cX3_walk 51 = .ok (.iload 5, 2) := by decide +kernel
theorem dX3_walk_53 : decode cX3_walk 53 = .ok (.ldc 107, 2) := by decide +kernel
theorem dX3_walk_55 : decode cX3_walk 55 = .ok (.imul, 1) := by decide +kernel
theorem dX3_walk_56 : decode cX3_walk 56 = .ok (.sipush 12345, 3) := by decide +kernel
theorem dX3_walk_59 : decode cX3_walk 59 = .ok (.iadd, 1) := by decide +kernel
theorem dX3_walk_60 : decode cX3_walk 60 = .ok (.istore 5, 2) := by decide +kernel
theorem dX3_walk_62 : decode cX3_walk 62 = .ok (.aload_n 0, 1) := by decide +kernel
theorem dX3_walk_63 : decode cX3_walk 63 = .ok (.iload 4, 2) := by decide +kernel
theorem dX3_walk_65 : decode cX3_walk 65 = .ok (.iload 5, 2) := by decide +kernel
theorem dX3_walk_67 : decode cX3_walk 67 = .ok (.bipush 8, 2) := by decide +kernel
theorem dX3_walk_69 : decode cX3_walk 69 = .ok (.iushr, 1) := by decide +kernel
theorem dX3_walk_70 : decode cX3_walk 70 = .ok (.invokevirtual 108, 3) := by decide +kernel
theorem dX3_walk_73 : decode cX3_walk 73 = .ok (.istore 7, 2) := by decide +kernel
theorem dX3_walk_75 : decode cX3_walk 75 = .ok (.aload_n 0, 1) := by decide +kernel
theorem dX3_walk_76 : decode cX3_walk 76 = .ok (.getfield 31, 3) := by decide +kernel
theorem dX3_walk_79 : decode cX3_walk 79 = .ok (.iload 4, 2) := by decide +kernel
theorem dX3_walk_81 : decode cX3_walk 81 = .ok (.iload 7, 2) := by decide +kernel
theorem dX3_walk_83 : decode cX3_walk 83 = .ok (.invokevirtual 112, 3) := by decide +kernel
theorem dX3_walk_86 : decode cX3_walk 86 = .ok (.istore 4, 2) := by decide +kernel
theorem dX3_walk_88 : decode cX3_walk 88 = .ok (.iinc 6 1, 3) := by decide +kernel
theorem dX3_walk_91 : decode cX3_walk 91 = .ok (.goto (-82), 3) := by decide +kernel
theorem dX3_walk_94 : decode cX3_walk 94 = .ok (.iload 4, 2) := by decide +kernel
theorem dX3_walk_96 : decode cX3_walk 96 = .ok (.ireturn, 1) := by decide +kernel
theorem dX3_worthless_0 : decode cX3_worthless 0 = .ok (.iconst 0, 1) := by decide +kernel
theorem dX3_worthless_1 : decode cX3_worthless 1 = .ok (.istore_n 1, 1) := by decide +kernel
theorem dX3_worthless_2 : decode cX3_worthless 2 = .ok (.iconst 0, 1) := by decide +kernel
theorem dX3_worthless_3 : decode cX3_worthless 3 = .ok (.istore_n 2, 1) := by decide +kernel
theorem dX3_worthless_4 : decode cX3_worthless 4 = .ok (.iload_n 2, 1) := by decide +kernel
theorem dX3_worthless_5 : decode cX3_worthless 5 = .ok (.aload_n 0, 1) := by decide +kernel
theorem dX3_worthless_6 : decode cX3_worthless 6 = .ok (.getfield 31, 3) := by decide +kernel
theorem dX3_worthless_9 : decode cX3_worthless 9 = .ok (.getfield 63, 3) := by decide +kernel
theorem dX3_worthless_12 : decode cX3_worthless 12 = .ok (.if_icmp .ge 29, 3) := by decide +kernel
theorem dX3_worthless_15 : decode cX3_worthless 15 = .ok (.aload_n 0, 1) := by decide +kernel
theorem dX3_worthless_16 : decode cX3_worthless 16 = .ok (.getfield 18, 3) := by decide +kernel
theorem dX3_worthless_19 : decode cX3_worthless 19 = .ok (.getfield 99, 3) := by decide +kernel
theorem dX3_worthless_22 : decode cX3_worthless 22 = .ok (.iload_n 2, 1) := by decide +kernel
theorem dX3_worthless_23 : decode cX3_worthless 23 = .ok (.laload, 1) := by decide +kernel
theorem dX3_worthless_24 : decode cX3_worthless 24 = .ok (.lconst 0, 1) := by decide +kernel
theorem dX3_worthless_25 : decode cX3_worthless 25 = .ok (.lcmp, 1) := by decide +kernel
theorem dX3_worthless_26 : decode cX3_worthless 26 = .ok (.ifCond .ne 9, 3) := by decide +kernel
theorem dX3_worthless_29 : decode cX3_worthless 29 = .ok (.iload_n 1, 1) := by decide +kernel
theorem dX3_worthless_30 : decode cX3_worthless 30 = .ok (.iconst 1, 1) := by decide +kernel
theorem dX3_worthless_31 : decode cX3_worthless 31 = .ok (.iload_n 2, 1) := by decide +kernel
theorem dX3_worthless_32 : decode cX3_worthless 32 = .ok (.ishl, 1) := by decide +kernel
theorem dX3_worthless_33 : decode cX3_worthless 33 = .ok (.ior, 1) := by decide +kernel
theorem dX3_worthless_34 : decode cX3_worthless 34 = .ok (.istore_n 1, 1) := by decide +kernel
theorem dX3_worthless_35 : decode cX3_worthless 35 = .ok (.iinc 2 1, 3) := by decide +kernel
theorem dX3_worthless_38 : decode cX3_worthless 38 = .ok (.goto (-34), 3) := by decide +kernel
theorem dX3_worthless_41 : decode cX3_worthless 41 = .ok (.iload_n 1, 1) := by decide +kernel
theorem dX3_worthless_42 : decode cX3_worthless 42 = .ok (.ireturn, 1) := by decide +kernel
set_option maxHeartbeats 4000000 in
set_option maxRecDepth 100000 in
theorem c_X3_findReach (l : Launch) (D : va_G) (g : Nat → ClassId) (sz : Nat) (oc : Nat) (n : Nat) (sv : Nat) (oc_plan : Nat) (ow : Nat) (ol : Nat) (oc_reach : Nat) (oc_ringBits : Nat) (orc : Int32) (orn : Int32) (ose : Int32) (co : Nat) (sv_keep : Nat) (sv_scaled : Nat) (eq : Nat) (co_place : Nat) (n_nodes : Int32) (n_kind : Nat) (n_pay : Nat) (n_name : Nat) (n_ways : Nat) (n_held : Nat) (n_targets : Nat) (n_weights : Nat) (n_fkind : Nat → Int32) (n_fways : Nat → Int32) (n_ftargets : Nat → Int32) (n_fweights : Nat → Int32) (opf : Nat → Int32) (orf : Nat → Int32) (h_orc : 0 ≤ (orc : Int32).toInt ∧ (orc : Int32).toInt ≤ 12) (h_ose : 0 ≤ (ose : Int32).toInt ∧ (ose : Int32).toInt ≤ 1) (h_n_nodes : 0 ≤ (n_nodes : Int32).toInt ∧ (n_nodes : Int32).toInt ≤ 12) (h_n_fkind : ∀ j : Nat, 0 ≤ (n_fkind j).toInt ∧ (n_fkind j).toInt ≤ 3) (h_n_fways : ∀ j : Nat, 0 ≤ (n_fways j).toInt ∧ (n_fways j).toInt ≤ 3) (h_n_ftargets : ∀ j : Nat, 0 ≤ (n_ftargets j).toInt ∧ (n_ftargets j).toInt ≤ 11) (h_opf : ∀ j : Nat, 0 ≤ (opf j).toInt ∧ (opf j).toInt ≤ 2) : Met l yX3_findReach (.code yX3_findReach cX3_findReach 3 none :: wsL_law) ({ frames := 2, cells := 0, slots := 0, locals := 47 }) (va_Pc [.ref oc] (fun U => U.heap.size = sz ∧ va_P D vwCl [(oc, .inr (3, [.ref n, .ref sv, .ref oc_plan, .ref ow, .ref ol, .ref oc_reach, .ref oc_ringBits, .int orc, .int orn, .int ose])), (sv, .inr (6, [.ref n, .ref co, .ref sv_keep, .ref sv_scaled])), (co, .inr (0, [.ref n, .ref eq, .ref co_place])), (n, .inr (2, [.int n_nodes, .ref n_kind, .ref n_pay, .ref n_name, .ref n_ways, .ref n_held, .ref n_targets, .ref n_weights])), (n_kind, .inl (g 0, 12, .inl n_fkind)), (n_ways, .inl (g 0, 12, .inl n_fways)), (n_targets, .inl (g 0, 36, .inl n_ftargets)), (n_weights, .inl (g 0, 36, .inl n_fweights)), (oc_plan, .inl (g 0, 12, .inl opf)), (oc_reach, .inl (g 0, 12, .inl orf))] U.heap ∧ va_K D vwCl (TY g) U ∧ va_D (fun _ => True) [(oc, .inr (3, [.ref n, .ref sv, .ref oc_plan, .ref ow, .ref ol, .ref oc_reach, .ref oc_ringBits, .int orc, .int orn, .int ose])), (sv, .inr (6, [.ref n, .ref co, .ref sv_keep, .ref sv_scaled])), (co, .inr (0, [.ref n, .ref eq, .ref co_place])), (n, .inr (2, [.int n_nodes, .ref n_kind, .ref n_pay, .ref n_name, .ref n_ways, .ref n_held, .ref n_targets, .ref n_weights])), (n_kind, .inl (g 0, 12, .inl n_fkind)), (n_ways, .inl (g 0, 12, .inl n_fways)), (n_targets, .inl (g 0, 36, .inl n_ftargets)), (n_weights, .inl (g 0, 36, .inl n_fweights)), (oc_plan, .inl (g 0, 12, .inl opf)), (oc_reach, .inl (g 0, 12, .inl orf))])) (va_Qv (fun (_ : Unit) => True) (fun _ t => ∃ xrf : Nat → Int32, va_P D vwCl [(oc, .inr (3, [.ref n, .ref sv, .ref oc_plan, .ref ow, .ref ol, .ref oc_reach, .ref oc_ringBits, .int orc, .int orn, .int ose])), (sv, .inr (6, [.ref n, .ref co, .ref sv_keep, .ref sv_scaled])), (co, .inr (0, [.ref n, .ref eq, .ref co_place])), (n, .inr (2, [.int n_nodes, .ref n_kind, .ref n_pay, .ref n_name, .ref n_ways, .ref n_held, .ref n_targets, .ref n_weights])), (n_kind, .inl (g 0, 12, .inl n_fkind)), (n_ways, .inl (g 0, 12, .inl n_fways)), (n_targets, .inl (g 0, 36, .inl n_ftargets)), (n_weights, .inl (g 0, 36, .inl n_fweights)), (oc_plan, .inl (g 0, 12, .inl opf)), (oc_reach, .inl (g 0, 12, .inl xrf))] t.heap ∧ va_D (va_A [(oc, .inr (3, [.ref n, .ref sv, .ref oc_plan, .ref ow, .ref ol, .ref oc_reach, .ref oc_ringBits, .int orc, .int orn, .int ose])), (sv, .inr (6, [.ref n, .ref co, .ref sv_keep, .ref sv_scaled])), (co, .inr (0, [.ref n, .ref eq, .ref co_place])), (n, .inr (2, [.int n_nodes, .ref n_kind, .ref n_pay, .ref n_name, .ref n_ways, .ref n_held, .ref n_targets, .ref n_weights])), (n_kind, .inl (g 0, 12, .inl n_fkind)), (n_ways, .inl (g 0, 12, .inl n_fways)), (n_targets, .inl (g 0, 36, .inl n_ftargets)), (n_weights, .inl (g 0, 36, .inl n_fweights)), (oc_plan, .inl (g 0, 12, .inl opf)), (oc_reach, .inl (g 0, 12, .inl orf))] sz) [(oc, .inr (3, [.ref n, .ref sv, .ref oc_plan, .ref ow, .ref ol, .ref oc_reach, .ref oc_ringBits, .int orc, .int orn, .int ose])), (sv, .inr (6, [.ref n, .ref co, .ref sv_keep, .ref sv_scaled])), (co, .inr (0, [.ref n, .ref eq, .ref co_place])), (n, .inr (2, [.int n_nodes, .ref n_kind, .ref n_pay, .ref n_name, .ref n_ways, .ref n_held, .ref n_targets, .ref n_weights])), (n_kind, .inl (g 0, 12, .inl n_fkind)), (n_ways, .inl (g 0, 12, .inl n_fways)), (n_targets, .inl (g 0, 36, .inl n_ftargets)), (n_weights, .inl (g 0, 36, .inl n_fweights)), (oc_plan, .inl (g 0, 12, .inl opf)), (oc_reach, .inl (g 0, 12, .inl xrf))]) (va_A [(oc, .inr (3, [.ref n, .ref sv, .ref oc_plan, .ref ow, .ref ol, .ref oc_reach, .ref oc_ringBits, .int orc, .int orn, .int ose])), (sv, .inr (6, [.ref n, .ref co, .ref sv_keep, .ref sv_scaled])), (co, .inr (0, [.ref n, .ref eq, .ref co_place])), (n, .inr (2, [.int n_nodes, .ref n_kind, .ref n_pay, .ref n_name, .ref n_ways, .ref n_held, .ref n_targets, .ref n_weights])), (n_kind, .inl (g 0, 12, .inl n_fkind)), (n_ways, .inl (g 0, 12, .inl n_fways)), (n_targets, .inl (g 0, 36, .inl n_ftargets)), (n_weights, .inl (g 0, 36, .inl n_fweights)), (oc_plan, .inl (g 0, 12, .inl opf)), (oc_reach, .inl (g 0, 12, .inl orf))] sz)) 0 0 (va_A [(oc, .inr (3, [.ref n, .ref sv, .ref oc_plan, .ref ow, .ref ol, .ref oc_reach, .ref oc_ringBits, .int orc, .int orn, .int ose])), (sv, .inr (6, [.ref n, .ref co, .ref sv_keep, .ref sv_scaled])), (co, .inr (0, [.ref n, .ref eq, .ref co_place])), (n, .inr (2, [.int n_nodes, .ref n_kind, .ref n_pay, .ref n_name, .ref n_ways, .ref n_held, .ref n_targets, .ref n_weights])), (n_kind, .inl (g 0, 12, .inl n_fkind)), (n_ways, .inl (g 0, 12, .inl n_fways)), (n_targets, .inl (g 0, 36, .inl n_ftargets)), (n_weights, .inl (g 0, 36, .inl n_fweights)), (oc_plan, .inl (g 0, 12, .inl opf)), (oc_reach, .inl (g 0, 12, .inl orf))] sz) := by
  refine Met.ofW (cc := cX3_findReach) (maxL := 3) (ret := none) (by decide) rfl ?_
  intro p e s m args below meth c s₁ B hml hv
  obtain ⟨ha, hsz, hP, hK, hD0⟩ := hv
  have hx := B.exec
  have hb := B.bytes
  have hr := B.returns
  have hts0 := atoms_spec (ws := (.code yX3_findReach cX3_findReach 3 none :: wsL_law)) B.pre
  have hts : ∀ w ∈ wsL_law, w.before args s = true := fun w h => hts0 w (List.mem_cons_of_mem _ h)
  have hown : s.vm.findClass RX3 = some m.cls := findClass_of_methodNamed B.named
  have hlocks := B.notSynchronized
  subst hsz
  have hD := hD0.self (sz := s.heap.size)
  generalize hAe : va_A [(oc, .inr (3, [.ref n, .ref sv, .ref oc_plan, .ref ow, .ref ol, .ref oc_reach, .ref oc_ringBits, .int orc, .int orn, .int ose])), (sv, .inr (6, [.ref n, .ref co, .ref sv_keep, .ref sv_scaled])), (co, .inr (0, [.ref n, .ref eq, .ref co_place])), (n, .inr (2, [.int n_nodes, .ref n_kind, .ref n_pay, .ref n_name, .ref n_ways, .ref n_held, .ref n_targets, .ref n_weights])), (n_kind, .inl (g 0, 12, .inl n_fkind)), (n_ways, .inl (g 0, 12, .inl n_fways)), (n_targets, .inl (g 0, 36, .inl n_ftargets)), (n_weights, .inl (g 0, 36, .inl n_fweights)), (oc_plan, .inl (g 0, 12, .inl opf)), (oc_reach, .inl (g 0, 12, .inl orf))] s.heap.size = A at hD ⊢
  have hA : ∀ q : Nat, s.heap.size ≤ q → A q := fun q h => by rw [← hAe]; exact Or.inr h
  have hS : va_S A s.heap s.heap [] := va_S.rf
  have hP : va_P D vwCl [(oc, .inr (3, [.ref n, .ref sv, .ref oc_plan, .ref ow, .ref ol, .ref oc_reach, .ref oc_ringBits, .int orc, .int orn, .int ose])), (sv, .inr (6, [.ref n, .ref co, .ref sv_keep, .ref sv_scaled])), (co, .inr (0, [.ref n, .ref eq, .ref co_place])), (n, .inr (2, [.int n_nodes, .ref n_kind, .ref n_pay, .ref n_name, .ref n_ways, .ref n_held, .ref n_targets, .ref n_weights])), (n_kind, .inl (g 0, 12, .inl n_fkind)), (n_ways, .inl (g 0, 12, .inl n_fways)), (n_targets, .inl (g 0, 36, .inl n_ftargets)), (n_weights, .inl (g 0, 36, .inl n_fweights)), (oc_plan, .inl (g 0, 12, .inl opf)), (oc_reach, .inl (g 0, 12, .inl orf))] s.heap := hP
  refine W.eq (g2 := entryFrame m ([.ref oc] : List Value).toArray 3) (by rw [ha]) ?_
  have hl := lv_entry ([.ref oc]) (n := 3) (Nat.le_of_ble_eq_true rfl)
  rw [lg_entry_eq]
  generalize (lg_sl ([.ref oc]) ++ List.replicate (3 - (lg_sl ([.ref oc])).length) Slot.unset).toArray = ls at hl ⊢
  have hl : lv_has ls 3 [(0, .ref oc)] := hl
  refine lv_iconst (v := 0) hx hb dX3_findReach_0 (by decide) ?_
  refine lv_istore_n (lv' := [(1, .int 0), (0, .ref oc)]) hx hb dX3_findReach_1 rfl hl (by decide) rfl (fun ls hl => ?_)
  have lp_108959 : ∀ (n_108959 : Nat) (x_108957 : Int32) (f_108958 : Nat → Int32) (H : Heap) (locs : List Loc) (ls : Array Slot), (0 ≤ (x_108957 : Int32).toInt ∧ (x_108957 : Int32).toInt ≤ 12) → (12 - x_108957.toInt < (n_108959 : Int)) → va_P D vwCl [(oc, .inr (3, [.ref n, .ref sv, .ref oc_plan, .ref ow, .ref ol, .ref oc_reach, .ref oc_ringBits, .int orc, .int orn, .int ose])), (sv, .inr (6, [.ref n, .ref co, .ref sv_keep, .ref sv_scaled])), (co, .inr (0, [.ref n, .ref eq, .ref co_place])), (n, .inr (2, [.int n_nodes, .ref n_kind, .ref n_pay, .ref n_name, .ref n_ways, .ref n_held, .ref n_targets, .ref n_weights])), (n_kind, .inl (g 0, 12, .inl n_fkind)), (n_ways, .inl (g 0, 12, .inl n_fways)), (n_targets, .inl (g 0, 36, .inl n_ftargets)), (n_weights, .inl (g 0, 36, .inl n_fweights)), (oc_plan, .inl (g 0, 12, .inl opf)), (oc_reach, .inl (g 0, 12, .inl f_108958))] H → va_D A [(oc, .inr (3, [.ref n, .ref sv, .ref oc_plan, .ref ow, .ref ol, .ref oc_reach, .ref oc_ringBits, .int orc, .int orn, .int ose])), (sv, .inr (6, [.ref n, .ref co, .ref sv_keep, .ref sv_scaled])), (co, .inr (0, [.ref n, .ref eq, .ref co_place])), (n, .inr (2, [.int n_nodes, .ref n_kind, .ref n_pay, .ref n_name, .ref n_ways, .ref n_held, .ref n_targets, .ref n_weights])), (n_kind, .inl (g 0, 12, .inl n_fkind)), (n_ways, .inl (g 0, 12, .inl n_fways)), (n_targets, .inl (g 0, 36, .inl n_ftargets)), (n_weights, .inl (g 0, 36, .inl n_fweights)), (oc_plan, .inl (g 0, 12, .inl opf)), (oc_reach, .inl (g 0, 12, .inl f_108958))] → va_S A s.heap H locs → lv_has ls 3 [(1, .int x_108957), (0, .ref oc)] → W p l e (headSpec (.code yX3_findReach cX3_findReach 3 none :: wsL_law) ({ frames := 2, cells := 0, slots := 0, locals := 47 })).room s m args below meth c H locs 0 0 (MQ below (va_Qv (fun (_ : Unit) => True) (fun _ t => ∃ xrf : Nat → Int32, va_P D vwCl [(oc, .inr (3, [.ref n, .ref sv, .ref oc_plan, .ref ow, .ref ol, .ref oc_reach, .ref oc_ringBits, .int orc, .int orn, .int ose])), (sv, .inr (6, [.ref n, .ref co, .ref sv_keep, .ref sv_scaled])), (co, .inr (0, [.ref n, .ref eq, .ref co_place])), (n, .inr (2, [.int n_nodes, .ref n_kind, .ref n_pay, .ref n_name, .ref n_ways, .ref n_held, .ref n_targets, .ref n_weights])), (n_kind, .inl (g 0, 12, .inl n_fkind)), (n_ways, .inl (g 0, 12, .inl n_fways)), (n_targets, .inl (g 0, 36, .inl n_ftargets)), (n_weights, .inl (g 0, 36, .inl n_fweights)), (oc_plan, .inl (g 0, 12, .inl opf)), (oc_reach, .inl (g 0, 12, .inl xrf))] t.heap ∧ va_D A [(oc, .inr (3, [.ref n, .ref sv, .ref oc_plan, .ref ow, .ref ol, .ref oc_reach, .ref oc_ringBits, .int orc, .int orn, .int ose])), (sv, .inr (6, [.ref n, .ref co, .ref sv_keep, .ref sv_scaled])), (co, .inr (0, [.ref n, .ref eq, .ref co_place])), (n, .inr (2, [.int n_nodes, .ref n_kind, .ref n_pay, .ref n_name, .ref n_ways, .ref n_held, .ref n_targets, .ref n_weights])), (n_kind, .inl (g 0, 12, .inl n_fkind)), (n_ways, .inl (g 0, 12, .inl n_fways)), (n_targets, .inl (g 0, 36, .inl n_ftargets)), (n_weights, .inl (g 0, 36, .inl n_fweights)), (oc_plan, .inl (g 0, 12, .inl opf)), (oc_reach, .inl (g 0, 12, .inl xrf))]) A) args s 0 0 A) (F0 m 2 ls []) := by
    intro n_108959
    induction n_108959 with
    | zero =>
      intro x_108957 f_108958 H locs ls h_x_108957 hm_108959 hP hD hS hl
      exfalso; omega
    | succ n_108959 ih_108959 =>
      intro x_108957 f_108958 H locs ls h_x_108957 hm_108959 hP hD hS hl
      refine lv_iload_n hx hb dX3_findReach_2 rfl (lv_at hl 0 rfl) ?_
      refine lv_aload_n hx hb dX3_findReach_3 rfl (lv_at hl 1 rfl) ?_
      refine va_get (D := D) (ci := 3) (v := .ref n) (C := RX3) (T := TX3) (N := 10) hx hb hts inlX3 hown hK hP 0 rfl rfl 0 (by decide) (hts (Cond.fieldLink RX3 31 "ChanceRings$Outcome" "net" "LChanceRings$Net;") qw_636) (fun _ h9 => h9) rfl dX3_findReach_4 ?_
      refine va_get (D := D) (ci := 2) (v := .int n_nodes) (C := RX2) (T := TX2) (N := 8) hx hb hts inlX2 hown hK hP 3 rfl rfl 0 (by decide) (hts (Cond.fieldLink RX3 63 "ChanceRings$Net" "nodes" "I") qw_637) (fun _ h9 => h9) rfl dX3_findReach_7 ?_
      refine lv_icmp_ge (tgt := 44) hx hb dX3_findReach_10 (by decide) (fun c_108960 => ?_) (fun c_108960 => ?_)
      · skip
        refine lv_iconst (v := 0) hx hb dX3_findReach_44 (by decide) ?_
        refine lv_istore_n (lv' := [(1, .int 0), (0, .ref oc)]) hx hb dX3_findReach_45 rfl hl (by decide) rfl (fun ls hl => ?_)
        have lp_110090 : ∀ (n_110090 : Nat) (x_110088 : Int32) (f_110089 : Nat → Int32) (H : Heap) (locs : List Loc) (ls : Array Slot), (0 ≤ (x_110088 : Int32).toInt ∧ (x_110088 : Int32).toInt ≤ 12) → (12 - x_110088.toInt < (n_110090 : Int)) → va_P D vwCl [(oc, .inr (3, [.ref n, .ref sv, .ref oc_plan, .ref ow, .ref ol, .ref oc_reach, .ref oc_ringBits, .int orc, .int orn, .int ose])), (sv, .inr (6, [.ref n, .ref co, .ref sv_keep, .ref sv_scaled])), (co, .inr (0, [.ref n, .ref eq, .ref co_place])), (n, .inr (2, [.int n_nodes, .ref n_kind, .ref n_pay, .ref n_name, .ref n_ways, .ref n_held, .ref n_targets, .ref n_weights])), (n_kind, .inl (g 0, 12, .inl n_fkind)), (n_ways, .inl (g 0, 12, .inl n_fways)), (n_targets, .inl (g 0, 36, .inl n_ftargets)), (n_weights, .inl (g 0, 36, .inl n_fweights)), (oc_plan, .inl (g 0, 12, .inl opf)), (oc_reach, .inl (g 0, 12, .inl f_110089))] H → va_D A [(oc, .inr (3, [.ref n, .ref sv, .ref oc_plan, .ref ow, .ref ol, .ref oc_reach, .ref oc_ringBits, .int orc, .int orn, .int ose])), (sv, .inr (6, [.ref n, .ref co, .ref sv_keep, .ref sv_scaled])), (co, .inr (0, [.ref n, .ref eq, .ref co_place])), (n, .inr (2, [.int n_nodes, .ref n_kind, .ref n_pay, .ref n_name, .ref n_ways, .ref n_held, .ref n_targets, .ref n_weights])), (n_kind, .inl (g 0, 12, .inl n_fkind)), (n_ways, .inl (g 0, 12, .inl n_fways)), (n_targets, .inl (g 0, 36, .inl n_ftargets)), (n_weights, .inl (g 0, 36, .inl n_fweights)), (oc_plan, .inl (g 0, 12, .inl opf)), (oc_reach, .inl (g 0, 12, .inl f_110089))] → va_S A s.heap H locs → lv_has ls 3 [(1, .int x_110088), (0, .ref oc)] → W p l e (headSpec (.code yX3_findReach cX3_findReach 3 none :: wsL_law) ({ frames := 2, cells := 0, slots := 0, locals := 47 })).room s m args below meth c H locs 0 0 (MQ below (va_Qv (fun (_ : Unit) => True) (fun _ t => ∃ xrf : Nat → Int32, va_P D vwCl [(oc, .inr (3, [.ref n, .ref sv, .ref oc_plan, .ref ow, .ref ol, .ref oc_reach, .ref oc_ringBits, .int orc, .int orn, .int ose])), (sv, .inr (6, [.ref n, .ref co, .ref sv_keep, .ref sv_scaled])), (co, .inr (0, [.ref n, .ref eq, .ref co_place])), (n, .inr (2, [.int n_nodes, .ref n_kind, .ref n_pay, .ref n_name, .ref n_ways, .ref n_held, .ref n_targets, .ref n_weights])), (n_kind, .inl (g 0, 12, .inl n_fkind)), (n_ways, .inl (g 0, 12, .inl n_fways)), (n_targets, .inl (g 0, 36, .inl n_ftargets)), (n_weights, .inl (g 0, 36, .inl n_fweights)), (oc_plan, .inl (g 0, 12, .inl opf)), (oc_reach, .inl (g 0, 12, .inl xrf))] t.heap ∧ va_D A [(oc, .inr (3, [.ref n, .ref sv, .ref oc_plan, .ref ow, .ref ol, .ref oc_reach, .ref oc_ringBits, .int orc, .int orn, .int ose])), (sv, .inr (6, [.ref n, .ref co, .ref sv_keep, .ref sv_scaled])), (co, .inr (0, [.ref n, .ref eq, .ref co_place])), (n, .inr (2, [.int n_nodes, .ref n_kind, .ref n_pay, .ref n_name, .ref n_ways, .ref n_held, .ref n_targets, .ref n_weights])), (n_kind, .inl (g 0, 12, .inl n_fkind)), (n_ways, .inl (g 0, 12, .inl n_fways)), (n_targets, .inl (g 0, 36, .inl n_ftargets)), (n_weights, .inl (g 0, 36, .inl n_fweights)), (oc_plan, .inl (g 0, 12, .inl opf)), (oc_reach, .inl (g 0, 12, .inl xrf))]) A) args s 0 0 A) (F0 m 46 ls []) := by
          intro n_110090
          induction n_110090 with
          | zero =>
            intro x_110088 f_110089 H locs ls h_x_110088 hm_110090 hP hD hS hl
            exfalso; omega
          | succ n_110090 ih_110090 =>
            intro x_110088 f_110089 H locs ls h_x_110088 hm_110090 hP hD hS hl
            refine lv_iload_n hx hb dX3_findReach_46 rfl (lv_at hl 0 rfl) ?_
            refine lv_aload_n hx hb dX3_findReach_47 rfl (lv_at hl 1 rfl) ?_
            refine va_get (D := D) (ci := 3) (v := .ref n) (C := RX3) (T := TX3) (N := 10) hx hb hts inlX3 hown hK hP 0 rfl rfl 0 (by decide) (hts (Cond.fieldLink RX3 31 "ChanceRings$Outcome" "net" "LChanceRings$Net;") qw_636) (fun _ h9 => h9) rfl dX3_findReach_48 ?_
            refine va_get (D := D) (ci := 2) (v := .int n_nodes) (C := RX2) (T := TX2) (N := 8) hx hb hts inlX2 hown hK hP 3 rfl rfl 0 (by decide) (hts (Cond.fieldLink RX3 63 "ChanceRings$Net" "nodes" "I") qw_637) (fun _ h9 => h9) rfl dX3_findReach_51 ?_
            refine lv_icmp_ge (tgt := 110) hx hb dX3_findReach_54 (by decide) (fun c_110091 => ?_) (fun c_110091 => ?_)
            · skip
              have hP9 := hP.sub (ws' := [(oc, .inr (3, [.ref n, .ref sv, .ref oc_plan, .ref ow, .ref ol, .ref oc_reach, .ref oc_ringBits, .int orc, .int orn, .int ose])), (sv, .inr (6, [.ref n, .ref co, .ref sv_keep, .ref sv_scaled])), (co, .inr (0, [.ref n, .ref eq, .ref co_place])), (n, .inr (2, [.int n_nodes, .ref n_kind, .ref n_pay, .ref n_name, .ref n_ways, .ref n_held, .ref n_targets, .ref n_weights])), (n_kind, .inl (g 0, 12, .inl n_fkind)), (n_ways, .inl (g 0, 12, .inl n_fways)), (n_targets, .inl (g 0, 36, .inl n_ftargets)), (n_weights, .inl (g 0, 36, .inl n_fweights)), (oc_plan, .inl (g 0, 12, .inl opf)), (oc_reach, .inl (g 0, 12, .inl f_110089))]) [0, 1, 2, 3, 4, 5, 6, 7, 8, 9] rfl
              have hD9 := hD.sub (ws' := [(oc, .inr (3, [.ref n, .ref sv, .ref oc_plan, .ref ow, .ref ol, .ref oc_reach, .ref oc_ringBits, .int orc, .int orn, .int ose])), (sv, .inr (6, [.ref n, .ref co, .ref sv_keep, .ref sv_scaled])), (co, .inr (0, [.ref n, .ref eq, .ref co_place])), (n, .inr (2, [.int n_nodes, .ref n_kind, .ref n_pay, .ref n_name, .ref n_ways, .ref n_held, .ref n_targets, .ref n_weights])), (n_kind, .inl (g 0, 12, .inl n_fkind)), (n_ways, .inl (g 0, 12, .inl n_fways)), (n_targets, .inl (g 0, 36, .inl n_ftargets)), (n_weights, .inl (g 0, 36, .inl n_fweights)), (oc_plan, .inl (g 0, 12, .inl opf)), (oc_reach, .inl (g 0, 12, .inl f_110089))]) [0, 1, 2, 3, 4, 5, 6, 7, 8, 9] (by decide) rfl
              exact W.vret hx hb hr (fun t ht hW => ⟨⟨(), rfl, trivial, f_110089, by rw [ht]; exact hP9, hD9⟩, hS.F ht⟩) hS.2.2 dX3_findReach_110
            · skip
              have c_110091_i := Int32.lt_iff_toInt_lt.mp (Int32.not_le.mp c_110091)
              have h_110092 : 0 ≤ (x_110088 : Int32).toInt ∧ (x_110088 : Int32).toInt ≤ 11 := by have q1 := h_x_110088; have q2 := h_n_nodes; omega
              have h_110093 : 1 ≤ (n_nodes : Int32).toInt ∧ (n_nodes : Int32).toInt ≤ 12 := by have q1 := h_x_110088; have q2 := h_n_nodes; omega
              refine lv_iconst (v := 0) hx hb dX3_findReach_57 (by decide) ?_
              refine lv_istore_n (lv' := [(2, .int 0), (1, .int x_110088), (0, .ref oc)]) hx hb dX3_findReach_58 rfl hl (by decide) rfl (fun ls hl => ?_)
              have lp_110217 : ∀ (n_110217 : Nat) (x_110215 : Int32) (f_110216 : Nat → Int32) (H : Heap) (locs : List Loc) (ls : Array Slot), (0 ≤ (x_110215 : Int32).toInt ∧ (x_110215 : Int32).toInt ≤ 12) → (12 - x_110215.toInt < (n_110217 : Int)) → va_P D vwCl [(oc, .inr (3, [.ref n, .ref sv, .ref oc_plan, .ref ow, .ref ol, .ref oc_reach, .ref oc_ringBits, .int orc, .int orn, .int ose])), (sv, .inr (6, [.ref n, .ref co, .ref sv_keep, .ref sv_scaled])), (co, .inr (0, [.ref n, .ref eq, .ref co_place])), (n, .inr (2, [.int n_nodes, .ref n_kind, .ref n_pay, .ref n_name, .ref n_ways, .ref n_held, .ref n_targets, .ref n_weights])), (n_kind, .inl (g 0, 12, .inl n_fkind)), (n_ways, .inl (g 0, 12, .inl n_fways)), (n_targets, .inl (g 0, 36, .inl n_ftargets)), (n_weights, .inl (g 0, 36, .inl n_fweights)), (oc_plan, .inl (g 0, 12, .inl opf)), (oc_reach, .inl (g 0, 12, .inl f_110216))] H → va_D A [(oc, .inr (3, [.ref n, .ref sv, .ref oc_plan, .ref ow, .ref ol, .ref oc_reach, .ref oc_ringBits, .int orc, .int orn, .int ose])), (sv, .inr (6, [.ref n, .ref co, .ref sv_keep, .ref sv_scaled])), (co, .inr (0, [.ref n, .ref eq, .ref co_place])), (n, .inr (2, [.int n_nodes, .ref n_kind, .ref n_pay, .ref n_name, .ref n_ways, .ref n_held, .ref n_targets, .ref n_weights])), (n_kind, .inl (g 0, 12, .inl n_fkind)), (n_ways, .inl (g 0, 12, .inl n_fways)), (n_targets, .inl (g 0, 36, .inl n_ftargets)), (n_weights, .inl (g 0, 36, .inl n_fweights)), (oc_plan, .inl (g 0, 12, .inl opf)), (oc_reach, .inl (g 0, 12, .inl f_110216))] → va_S A s.heap H locs → lv_has ls 3 [(2, .int x_110215), (1, .int x_110088), (0, .ref oc)] → W p l e (headSpec (.code yX3_findReach cX3_findReach 3 none :: wsL_law) ({ frames := 2, cells := 0, slots := 0, locals := 47 })).room s m args below meth c H locs 0 0 (MQ below (va_Qv (fun (_ : Unit) => True) (fun _ t => ∃ xrf : Nat → Int32, va_P D vwCl [(oc, .inr (3, [.ref n, .ref sv, .ref oc_plan, .ref ow, .ref ol, .ref oc_reach, .ref oc_ringBits, .int orc, .int orn, .int ose])), (sv, .inr (6, [.ref n, .ref co, .ref sv_keep, .ref sv_scaled])), (co, .inr (0, [.ref n, .ref eq, .ref co_place])), (n, .inr (2, [.int n_nodes, .ref n_kind, .ref n_pay, .ref n_name, .ref n_ways, .ref n_held, .ref n_targets, .ref n_weights])), (n_kind, .inl (g 0, 12, .inl n_fkind)), (n_ways, .inl (g 0, 12, .inl n_fways)), (n_targets, .inl (g 0, 36, .inl n_ftargets)), (n_weights, .inl (g 0, 36, .inl n_fweights)), (oc_plan, .inl (g 0, 12, .inl opf)), (oc_reach, .inl (g 0, 12, .inl xrf))] t.heap ∧ va_D A [(oc, .inr (3, [.ref n, .ref sv, .ref oc_plan, .ref ow, .ref ol, .ref oc_reach, .ref oc_ringBits, .int orc, .int orn, .int ose])), (sv, .inr (6, [.ref n, .ref co, .ref sv_keep, .ref sv_scaled])), (co, .inr (0, [.ref n, .ref eq, .ref co_place])), (n, .inr (2, [.int n_nodes, .ref n_kind, .ref n_pay, .ref n_name, .ref n_ways, .ref n_held, .ref n_targets, .ref n_weights])), (n_kind, .inl (g 0, 12, .inl n_fkind)), (n_ways, .inl (g 0, 12, .inl n_fways)), (n_targets, .inl (g 0, 36, .inl n_ftargets)), (n_weights, .inl (g 0, 36, .inl n_fweights)), (oc_plan, .inl (g 0, 12, .inl opf)), (oc_reach, .inl (g 0, 12, .inl xrf))]) A) args s 0 0 A) (F0 m 59 ls []) := by
                intro n_110217
                induction n_110217 with
                | zero =>
                  intro x_110215 f_110216 H locs ls h_x_110215 hm_110217 hP hD hS hl
                  exfalso; omega
                | succ n_110217 ih_110217 =>
                  intro x_110215 f_110216 H locs ls h_x_110215 hm_110217 hP hD hS hl
                  refine lv_iload_n hx hb dX3_findReach_59 rfl (lv_at hl 0 rfl) ?_
                  refine lv_aload_n hx hb dX3_findReach_60 rfl (lv_at hl 2 rfl) ?_
                  refine va_get (D := D) (ci := 3) (v := .ref n) (C := RX3) (T := TX3) (N := 10) hx hb hts inlX3 hown hK hP 0 rfl rfl 0 (by decide) (hts (Cond.fieldLink RX3 31 "ChanceRings$Outcome" "net" "LChanceRings$Net;") qw_636) (fun _ h9 => h9) rfl dX3_findReach_61 ?_
                  refine va_get (D := D) (ci := 2) (v := .int n_nodes) (C := RX2) (T := TX2) (N := 8) hx hb hts inlX2 hown hK hP 3 rfl rfl 0 (by decide) (hts (Cond.fieldLink RX3 63 "ChanceRings$Net" "nodes" "I") qw_637) (fun _ h9 => h9) rfl dX3_findReach_64 ?_
                  refine lv_icmp_ge (tgt := 104) hx hb dX3_findReach_67 (by decide) (fun c_110218 => ?_) (fun c_110218 => ?_)
                  · skip
                    have c_110218_i := Int32.le_iff_toInt_le.mp c_110218
                    have h_110219 : 1 ≤ (x_110215 : Int32).toInt ∧ (x_110215 : Int32).toInt ≤ 12 := by have q1 := h_x_110215; have q2 := h_110093; omega
                    obtain ⟨v_110221, v_110221_e⟩ : ∃ y : Int32, y = x_110088 + Int32.ofInt 1 := ⟨_, rfl⟩
                    have h_v_110221 : 1 ≤ (v_110221 : Int32).toInt ∧ (v_110221 : Int32).toInt ≤ 12 := by rw [v_110221_e]; exact tr_add h_110092 (⟨by decide, by decide⟩ : 1 ≤ (Int32.ofInt 1 : Int32).toInt ∧ (Int32.ofInt 1 : Int32).toInt ≤ 1) (by decide) (by decide) (by decide) (by decide)
                    have q_v_110221 : v_110221.toInt = x_110088.toInt + 1 := by rw [v_110221_e]; exact tr_addE h_110092 (⟨by decide, by decide⟩ : 1 ≤ (Int32.ofInt 1 : Int32).toInt ∧ (Int32.ofInt 1 : Int32).toInt ≤ 1) (by decide) (by decide)
                    refine lv_iinc (v := v_110221) (lv' := [(1, .int v_110221), (2, .int x_110215), (0, .ref oc)]) hx hb dX3_findReach_104 hl (k := 1) rfl v_110221_e.symm (by decide) rfl (fun ls hl => ?_)
                    refine lv_goto (tgt := 46) hx hb dX3_findReach_107 (by decide) ?_
                    exact ih_110090 v_110221 f_110216 H _ ls (tr_w h_v_110221 (by decide) (by decide)) (by omega) (hP.sub [0, 1, 2, 3, 4, 5, 6, 7, 8, 9] rfl) (hD.sub [0, 1, 2, 3, 4, 5, 6, 7, 8, 9] (by decide) rfl) hS (lv_sub hl [0, 2] rfl)
                  · skip
                    have c_110218_i := Int32.lt_iff_toInt_lt.mp (Int32.not_le.mp c_110218)
                    have h_110220 : 0 ≤ (x_110215 : Int32).toInt ∧ (x_110215 : Int32).toInt ≤ 11 := by have q1 := h_x_110215; have q2 := h_110093; omega
                    refine lv_aload_n hx hb dX3_findReach_70 rfl (lv_at hl 2 rfl) ?_
                    refine va_get (D := D) (ci := 3) (v := .ref oc_reach) (C := RX3) (T := TX3) (N := 10) hx hb hts inlX3 hown hK hP 0 rfl rfl 5 (by decide) (hts (Cond.fieldLink RX3 25 "ChanceRings$Outcome" "reach" "[I") qw_638) (fun _ h9 => h9) rfl dX3_findReach_71 ?_
                    refine lv_iload_n hx hb dX3_findReach_74 rfl (lv_at hl 0 rfl) ?_
                    refine va_iald hx hb hK hP 9 0 rfl rfl (tr_in h_110220 (by decide) (by decide)) dX3_findReach_75 ?_
                    refine lv_topi (fun v_110222 v_110222_e => ?_)
                    refine lv_iload_n hx hb dX3_findReach_76 rfl (lv_at hl 1 rfl) ?_
                    refine lv_ishr hx hb dX3_findReach_77 ?_
                    refine lv_topi (fun v_110223 v_110223_e => ?_)
                    refine lv_iconst (v := 1) hx hb dX3_findReach_78 (by decide) ?_
                    refine lv_iand hx hb dX3_findReach_79 ?_
                    refine lv_topi (fun v_110224 v_110224_e => ?_)
                    refine lv_if_eq (tgt := 98) hx hb dX3_findReach_80 (by decide) (fun c_110225 => ?_) (fun c_110225 => ?_)
                    · skip
                      have h_110226 : 0 ≤ (v_110224 : Int32).toInt ∧ (v_110224 : Int32).toInt ≤ 0 := by rw [c_110225]; exact ⟨by decide, by decide⟩
                      obtain ⟨v_110227, v_110227_e⟩ : ∃ y : Int32, y = x_110215 + Int32.ofInt 1 := ⟨_, rfl⟩
                      have h_v_110227 : 1 ≤ (v_110227 : Int32).toInt ∧ (v_110227 : Int32).toInt ≤ 12 := by rw [v_110227_e]; exact tr_add h_110220 (⟨by decide, by decide⟩ : 1 ≤ (Int32.ofInt 1 : Int32).toInt ∧ (Int32.ofInt 1 : Int32).toInt ≤ 1) (by decide) (by decide) (by decide) (by decide)
                      have q_v_110227 : v_110227.toInt = x_110215.toInt + 1 := by rw [v_110227_e]; exact tr_addE h_110220 (⟨by decide, by decide⟩ : 1 ≤ (Int32.ofInt 1 : Int32).toInt ∧ (Int32.ofInt 1 : Int32).toInt ≤ 1) (by decide) (by decide)
                      refine lv_iinc (v := v_110227) (lv' := [(2, .int v_110227), (1, .int x_110088), (0, .ref oc)]) hx hb dX3_findReach_98 hl (k := 0) rfl v_110227_e.symm (by decide) rfl (fun ls hl => ?_)
                      refine lv_goto (tgt := 59) hx hb dX3_findReach_101 (by decide) ?_
                      exact ih_110217 v_110227 f_110216 H _ ls (tr_w h_v_110227 (by decide) (by decide)) (by omega) (hP.sub [0, 1, 2, 3, 4, 5, 6, 7, 8, 9] rfl) (hD.sub [0, 1, 2, 3, 4, 5, 6, 7, 8, 9] (by decide) rfl) hS (lv_sub hl [0, 1, 2] rfl)
                    · skip
                      refine lv_aload_n hx hb dX3_findReach_83 rfl (lv_at hl 2 rfl) ?_
                      refine va_get (D := D) (ci := 3) (v := .ref oc_reach) (C := RX3) (T := TX3) (N := 10) hx hb hts inlX3 hown hK hP 0 rfl rfl 5 (by decide) (hts (Cond.fieldLink RX3 25 "ChanceRings$Outcome" "reach" "[I") qw_638) (fun _ h9 => h9) rfl dX3_findReach_84 ?_
                      refine lv_iload_n hx hb dX3_findReach_87 rfl (lv_at hl 0 rfl) ?_
                      refine lv_dup2_11 hx hb dX3_findReach_88 rfl rfl ?_
                      refine va_iald hx hb hK hP 9 0 rfl rfl (tr_in h_110220 (by decide) (by decide)) dX3_findReach_89 ?_
                      refine tz_i (y := v_110222) v_110222_e.symm ?_
                      refine lv_aload_n hx hb dX3_findReach_90 rfl (lv_at hl 2 rfl) ?_
                      refine va_get (D := D) (ci := 3) (v := .ref oc_reach) (C := RX3) (T := TX3) (N := 10) hx hb hts inlX3 hown hK hP 0 rfl rfl 5 (by decide) (hts (Cond.fieldLink RX3 25 "ChanceRings$Outcome" "reach" "[I") qw_638) (fun _ h9 => h9) rfl dX3_findReach_91 ?_
                      refine lv_iload_n hx hb dX3_findReach_94 rfl (lv_at hl 1 rfl) ?_
                      refine va_iald hx hb hK hP 9 0 rfl rfl (tr_in h_110092 (by decide) (by decide)) dX3_findReach_95 ?_
                      refine lv_topi (fun v_110228 v_110228_e => ?_)
                      refine lv_ior hx hb dX3_findReach_96 ?_
                      refine lv_topi (fun v_110229 v_110229_e => ?_)
                      refine va_iast hx hb hK hP hD hS 9 0 rfl rfl (tr_in h_110220 (by decide) (by decide)) dX3_findReach_97 (fun H locs hP hD hS => ?_)
                      obtain ⟨f_110230, hP, hD⟩ : ∃ FX : Nat → Int32, va_P D vwCl [(oc, .inr (3, [.ref n, .ref sv, .ref oc_plan, .ref ow, .ref ol, .ref oc_reach, .ref oc_ringBits, .int orc, .int orn, .int ose])), (sv, .inr (6, [.ref n, .ref co, .ref sv_keep, .ref sv_scaled])), (co, .inr (0, [.ref n, .ref eq, .ref co_place])), (n, .inr (2, [.int n_nodes, .ref n_kind, .ref n_pay, .ref n_name, .ref n_ways, .ref n_held, .ref n_targets, .ref n_weights])), (n_kind, .inl (g 0, 12, .inl n_fkind)), (n_ways, .inl (g 0, 12, .inl n_fways)), (n_targets, .inl (g 0, 36, .inl n_ftargets)), (n_weights, .inl (g 0, 36, .inl n_fweights)), (oc_plan, .inl (g 0, 12, .inl opf)), (oc_reach, .inl (g 0, 12, .inl FX))] H ∧ va_D A [(oc, .inr (3, [.ref n, .ref sv, .ref oc_plan, .ref ow, .ref ol, .ref oc_reach, .ref oc_ringBits, .int orc, .int orn, .int ose])), (sv, .inr (6, [.ref n, .ref co, .ref sv_keep, .ref sv_scaled])), (co, .inr (0, [.ref n, .ref eq, .ref co_place])), (n, .inr (2, [.int n_nodes, .ref n_kind, .ref n_pay, .ref n_name, .ref n_ways, .ref n_held, .ref n_targets, .ref n_weights])), (n_kind, .inl (g 0, 12, .inl n_fkind)), (n_ways, .inl (g 0, 12, .inl n_fways)), (n_targets, .inl (g 0, 36, .inl n_ftargets)), (n_weights, .inl (g 0, 36, .inl n_fweights)), (oc_plan, .inl (g 0, 12, .inl opf)), (oc_reach, .inl (g 0, 12, .inl FX))] := ⟨_, hP, hD⟩
                      have hP : va_P D vwCl [(oc, .inr (3, [.ref n, .ref sv, .ref oc_plan, .ref ow, .ref ol, .ref oc_reach, .ref oc_ringBits, .int orc, .int orn, .int ose])), (sv, .inr (6, [.ref n, .ref co, .ref sv_keep, .ref sv_scaled])), (co, .inr (0, [.ref n, .ref eq, .ref co_place])), (n, .inr (2, [.int n_nodes, .ref n_kind, .ref n_pay, .ref n_name, .ref n_ways, .ref n_held, .ref n_targets, .ref n_weights])), (n_kind, .inl (g 0, 12, .inl n_fkind)), (n_ways, .inl (g 0, 12, .inl n_fways)), (n_targets, .inl (g 0, 36, .inl n_ftargets)), (n_weights, .inl (g 0, 36, .inl n_fweights)), (oc_plan, .inl (g 0, 12, .inl opf)), (oc_reach, .inl (g 0, 12, .inl f_110230))] H := hP
                      have hD : va_D A [(oc, .inr (3, [.ref n, .ref sv, .ref oc_plan, .ref ow, .ref ol, .ref oc_reach, .ref oc_ringBits, .int orc, .int orn, .int ose])), (sv, .inr (6, [.ref n, .ref co, .ref sv_keep, .ref sv_scaled])), (co, .inr (0, [.ref n, .ref eq, .ref co_place])), (n, .inr (2, [.int n_nodes, .ref n_kind, .ref n_pay, .ref n_name, .ref n_ways, .ref n_held, .ref n_targets, .ref n_weights])), (n_kind, .inl (g 0, 12, .inl n_fkind)), (n_ways, .inl (g 0, 12, .inl n_fways)), (n_targets, .inl (g 0, 36, .inl n_ftargets)), (n_weights, .inl (g 0, 36, .inl n_fweights)), (oc_plan, .inl (g 0, 12, .inl opf)), (oc_reach, .inl (g 0, 12, .inl f_110230))] := hD
                      obtain ⟨v_110231, v_110231_e⟩ : ∃ y : Int32, y = x_110215 + Int32.ofInt 1 := ⟨_, rfl⟩
                      have h_v_110231 : 1 ≤ (v_110231 : Int32).toInt ∧ (v_110231 : Int32).toInt ≤ 12 := by rw [v_110231_e]; exact tr_add h_110220 (⟨by decide, by decide⟩ : 1 ≤ (Int32.ofInt 1 : Int32).toInt ∧ (Int32.ofInt 1 : Int32).toInt ≤ 1) (by decide) (by decide) (by decide) (by decide)
                      have q_v_110231 : v_110231.toInt = x_110215.toInt + 1 := by rw [v_110231_e]; exact tr_addE h_110220 (⟨by decide, by decide⟩ : 1 ≤ (Int32.ofInt 1 : Int32).toInt ∧ (Int32.ofInt 1 : Int32).toInt ≤ 1) (by decide) (by decide)
                      refine lv_iinc (v := v_110231) (lv' := [(2, .int v_110231), (1, .int x_110088), (0, .ref oc)]) hx hb dX3_findReach_98 hl (k := 0) rfl v_110231_e.symm (by decide) rfl (fun ls hl => ?_)
                      refine lv_goto (tgt := 59) hx hb dX3_findReach_101 (by decide) ?_
                      exact ih_110217 v_110231 f_110230 H _ ls (tr_w h_v_110231 (by decide) (by decide)) (by omega) (hP.sub [0, 1, 2, 3, 4, 5, 6, 7, 8, 9] rfl) (hD.sub [0, 1, 2, 3, 4, 5, 6, 7, 8, 9] (by decide) rfl) hS (lv_sub hl [0, 1, 2] rfl)
              exact lp_110217 13 0 f_110089 H _ ls (⟨by decide, by decide⟩ : 0 ≤ (0 : Int32).toInt ∧ (0 : Int32).toInt ≤ 12) (by decide) (hP.sub [0, 1, 2, 3, 4, 5, 6, 7, 8, 9] rfl) (hD.sub [0, 1, 2, 3, 4, 5, 6, 7, 8, 9] (by decide) rfl) hS (lv_sub hl [0, 1, 2] rfl)
        exact lp_110090 13 0 f_108958 H _ ls (⟨by decide, by decide⟩ : 0 ≤ (0 : Int32).toInt ∧ (0 : Int32).toInt ≤ 12) (by decide) (hP.sub [0, 1, 2, 3, 4, 5, 6, 7, 8, 9] rfl) (hD.sub [0, 1, 2, 3, 4, 5, 6, 7, 8, 9] (by decide) rfl) hS (lv_sub hl [0, 1] rfl)
      · skip
        have c_108960_i := Int32.lt_iff_toInt_lt.mp (Int32.not_le.mp c_108960)
        have h_108961 : 0 ≤ (x_108957 : Int32).toInt ∧ (x_108957 : Int32).toInt ≤ 11 := by have q1 := h_x_108957; have q2 := h_n_nodes; omega
        have h_108962 : 1 ≤ (n_nodes : Int32).toInt ∧ (n_nodes : Int32).toInt ≤ 12 := by have q1 := h_x_108957; have q2 := h_n_nodes; omega
        refine lv_aload_n hx hb dX3_findReach_13 rfl (lv_at hl 1 rfl) ?_
        refine va_get (D := D) (ci := 3) (v := .ref oc_reach) (C := RX3) (T := TX3) (N := 10) hx hb hts inlX3 hown hK hP 0 rfl rfl 5 (by decide) (hts (Cond.fieldLink RX3 25 "ChanceRings$Outcome" "reach" "[I") qw_638) (fun _ h9 => h9) rfl dX3_findReach_14 ?_
        refine lv_iload_n hx hb dX3_findReach_17 rfl (lv_at hl 0 rfl) ?_
        refine lv_iconst (v := 1) hx hb dX3_findReach_18 (by decide) ?_
        refine lv_iload_n hx hb dX3_findReach_19 rfl (lv_at hl 0 rfl) ?_
        refine lv_ishl hx hb dX3_findReach_20 ?_
        refine lv_topi (fun v_110232 v_110232_e => ?_)
        refine lv_aload_n hx hb dX3_findReach_21 rfl (lv_at hl 1 rfl) ?_
        refine va_get (D := D) (ci := 3) (v := .ref sv) (C := RX3) (T := TX3) (N := 10) hx hb hts inlX3 hown hK hP 0 rfl rfl 1 (by decide) (hts (Cond.fieldLink RX3 35 "ChanceRings$Outcome" "solver" "LChanceRings$Solver;") qw_639) (fun _ h9 => h9) rfl dX3_findReach_22 ?_
        refine va_get (D := D) (ci := 6) (v := .ref co) (C := RX6) (T := TX6) (N := 4) hx hb hts inlX6 hown hK hP 1 rfl rfl 1 (by decide) (hts (Cond.fieldLink RX3 73 "ChanceRings$Solver" "course" "LChanceRings$Course;") qw_640) (fun _ h9 => h9) rfl dX3_findReach_25 ?_
        refine lv_aload_n hx hb dX3_findReach_28 rfl (lv_at hl 1 rfl) ?_
        refine va_get (D := D) (ci := 3) (v := .ref oc_plan) (C := RX3) (T := TX3) (N := 10) hx hb hts inlX3 hown hK hP 0 rfl rfl 2 (by decide) (hts (Cond.fieldLink RX3 9 "ChanceRings$Outcome" "plan" "[I") qw_641) (fun _ h9 => h9) rfl dX3_findReach_29 ?_
        refine lv_iload_n hx hb dX3_findReach_32 rfl (lv_at hl 0 rfl) ?_
        have hPc := hP.sub (ws' := [(co, .inr (0, [.ref n, .ref eq, .ref co_place])), (n, .inr (2, [.int n_nodes, .ref n_kind, .ref n_pay, .ref n_name, .ref n_ways, .ref n_held, .ref n_targets, .ref n_weights])), (n_kind, .inl (g 0, 12, .inl n_fkind)), (n_ways, .inl (g 0, 12, .inl n_fways)), (n_targets, .inl (g 0, 36, .inl n_ftargets)), (n_weights, .inl (g 0, 36, .inl n_fweights)), (oc_plan, .inl (g 0, 12, .inl opf))]) [2, 3, 4, 5, 6, 7, 8] rfl
        refine vp_callSi (va_Run.run (va_runV (As := [.ref oc_plan, .int x_108957]) (rest := [.int v_110232, .int x_108957, .ref oc_reach]) ⟨hx, hb, hml, hown, hts⟩ (c_X0_follow l D g co oc_plan x_108957 n eq co_place n_nodes n_kind n_pay n_name n_ways n_held n_targets n_weights n_fkind n_fways n_ftargets n_fweights opf (tr_w h_108961 (by decide) (by decide)) (tr_w h_108962 (by decide) (by decide)) (tr_wa h_n_fkind (by decide) (by decide)) (tr_wa h_n_fways (by decide) (by decide)) (tr_wa h_n_ftargets (by decide) (by decide)) (tr_wa h_opf (by decide) (by decide))) (cwV 2 hts (tz_gV qw_642 qw_567 qw_568 qw_490 qw_569) rfl rfl rfl (by decide +kernel) ⟨Nat.le_of_ble_eq_true rfl, Nat.le_of_ble_eq_true rfl⟩) ⟨tz_blS, va_recv hK hPc (ci := 0) (q0 := 0) rfl rfl, tz_preS hPc hK⟩ rfl rfl hl.1 rfl (lv_room (Nat.le_of_ble_eq_true rfl)) dX3_findReach_33 ⟨Nat.le_of_ble_eq_true rfl, Nat.le_of_ble_eq_true rfl⟩)) (fun r_110233 hw => ?_)
        refine lv_ior hx hb dX3_findReach_36 ?_
        refine lv_topi (fun v_110234 v_110234_e => ?_)
        refine va_iast hx hb hK hP hD hS 9 0 rfl rfl (tr_in h_108961 (by decide) (by decide)) dX3_findReach_37 (fun H locs hP hD hS => ?_)
        obtain ⟨f_110235, hP, hD⟩ : ∃ FX : Nat → Int32, va_P D vwCl [(oc, .inr (3, [.ref n, .ref sv, .ref oc_plan, .ref ow, .ref ol, .ref oc_reach, .ref oc_ringBits, .int orc, .int orn, .int ose])), (sv, .inr (6, [.ref n, .ref co, .ref sv_keep, .ref sv_scaled])), (co, .inr (0, [.ref n, .ref eq, .ref co_place])), (n, .inr (2, [.int n_nodes, .ref n_kind, .ref n_pay, .ref n_name, .ref n_ways, .ref n_held, .ref n_targets, .ref n_weights])), (n_kind, .inl (g 0, 12, .inl n_fkind)), (n_ways, .inl (g 0, 12, .inl n_fways)), (n_targets, .inl (g 0, 36, .inl n_ftargets)), (n_weights, .inl (g 0, 36, .inl n_fweights)), (oc_plan, .inl (g 0, 12, .inl opf)), (oc_reach, .inl (g 0, 12, .inl FX))] H ∧ va_D A [(oc, .inr (3, [.ref n, .ref sv, .ref oc_plan, .ref ow, .ref ol, .ref oc_reach, .ref oc_ringBits, .int orc, .int orn, .int ose])), (sv, .inr (6, [.ref n, .ref co, .ref sv_keep, .ref sv_scaled])), (co, .inr (0, [.ref n, .ref eq, .ref co_place])), (n, .inr (2, [.int n_nodes, .ref n_kind, .ref n_pay, .ref n_name, .ref n_ways, .ref n_held, .ref n_targets, .ref n_weights])), (n_kind, .inl (g 0, 12, .inl n_fkind)), (n_ways, .inl (g 0, 12, .inl n_fways)), (n_targets, .inl (g 0, 36, .inl n_ftargets)), (n_weights, .inl (g 0, 36, .inl n_fweights)), (oc_plan, .inl (g 0, 12, .inl opf)), (oc_reach, .inl (g 0, 12, .inl FX))] := ⟨_, hP, hD⟩
        have hP : va_P D vwCl [(oc, .inr (3, [.ref n, .ref sv, .ref oc_plan, .ref ow, .ref ol, .ref oc_reach, .ref oc_ringBits, .int orc, .int orn, .int ose])), (sv, .inr (6, [.ref n, .ref co, .ref sv_keep, .ref sv_scaled])), (co, .inr (0, [.ref n, .ref eq, .ref co_place])), (n, .inr (2, [.int n_nodes, .ref n_kind, .ref n_pay, .ref n_name, .ref n_ways, .ref n_held, .ref n_targets, .ref n_weights])), (n_kind, .inl (g 0, 12, .inl n_fkind)), (n_ways, .inl (g 0, 12, .inl n_fways)), (n_targets, .inl (g 0, 36, .inl n_ftargets)), (n_weights, .inl (g 0, 36, .inl n_fweights)), (oc_plan, .inl (g 0, 12, .inl opf)), (oc_reach, .inl (g 0, 12, .inl f_110235))] H := hP
        have hD : va_D A [(oc, .inr (3, [.ref n, .ref sv, .ref oc_plan, .ref ow, .ref ol, .ref oc_reach, .ref oc_ringBits, .int orc, .int orn, .int ose])), (sv, .inr (6, [.ref n, .ref co, .ref sv_keep, .ref sv_scaled])), (co, .inr (0, [.ref n, .ref eq, .ref co_place])), (n, .inr (2, [.int n_nodes, .ref n_kind, .ref n_pay, .ref n_name, .ref n_ways, .ref n_held, .ref n_targets, .ref n_weights])), (n_kind, .inl (g 0, 12, .inl n_fkind)), (n_ways, .inl (g 0, 12, .inl n_fways)), (n_targets, .inl (g 0, 36, .inl n_ftargets)), (n_weights, .inl (g 0, 36, .inl n_fweights)), (oc_plan, .inl (g 0, 12, .inl opf)), (oc_reach, .inl (g 0, 12, .inl f_110235))] := hD
        obtain ⟨v_110236, v_110236_e⟩ : ∃ y : Int32, y = x_108957 + Int32.ofInt 1 := ⟨_, rfl⟩
        have h_v_110236 : 1 ≤ (v_110236 : Int32).toInt ∧ (v_110236 : Int32).toInt ≤ 12 := by rw [v_110236_e]; exact tr_add h_108961 (⟨by decide, by decide⟩ : 1 ≤ (Int32.ofInt 1 : Int32).toInt ∧ (Int32.ofInt 1 : Int32).toInt ≤ 1) (by decide) (by decide) (by decide) (by decide)
        have q_v_110236 : v_110236.toInt = x_108957.toInt + 1 := by rw [v_110236_e]; exact tr_addE h_108961 (⟨by decide, by decide⟩ : 1 ≤ (Int32.ofInt 1 : Int32).toInt ∧ (Int32.ofInt 1 : Int32).toInt ≤ 1) (by decide) (by decide)
        refine lv_iinc (v := v_110236) (lv' := [(1, .int v_110236), (0, .ref oc)]) hx hb dX3_findReach_38 hl (k := 0) rfl v_110236_e.symm (by decide) rfl (fun ls hl => ?_)
        refine lv_goto (tgt := 2) hx hb dX3_findReach_41 (by decide) ?_
        exact ih_108959 v_110236 f_110235 H _ ls (tr_w h_v_110236 (by decide) (by decide)) (by omega) (hP.sub [0, 1, 2, 3, 4, 5, 6, 7, 8, 9] rfl) (hD.sub [0, 1, 2, 3, 4, 5, 6, 7, 8, 9] (by decide) rfl) hS (lv_sub hl [0, 1] rfl)
  exact lp_108959 13 0 orf s.heap _ ls (⟨by decide, by decide⟩ : 0 ≤ (0 : Int32).toInt ∧ (0 : Int32).toInt ≤ 12) (by decide) (hP.sub [0, 1, 2, 3, 4, 5, 6, 7, 8, 9] rfl) (hD.sub [0, 1, 2, 3, 4, 5, 6, 7, 8, 9] (by decide) rfl) hS (lv_sub hl [0, 1] rfl)
set_option maxHeartbeats 4000000 in
set_option maxRecDepth 100000 in
theorem c_X3_comesBack (l : Launch) (D : va_G) (g : Nat → ClassId) (oc : Nat) (p0 : Int32) (n : Nat) (sv : Nat) (oc_plan : Nat) (ow : Nat) (ol : Nat) (oc_reach : Nat) (oc_ringBits : Nat) (orc : Int32) (orn : Int32) (ose : Int32) (n_nodes : Int32) (n_kind : Nat) (n_pay : Nat) (n_name : Nat) (n_ways : Nat) (n_held : Nat) (n_targets : Nat) (n_weights : Nat) (n_fkind : Nat → Int32) (orf : Nat → Int32) (h_p0 : 0 ≤ (p0 : Int32).toInt ∧ (p0 : Int32).toInt ≤ 11) (h_orc : 0 ≤ (orc : Int32).toInt ∧ (orc : Int32).toInt ≤ 12) (h_ose : 0 ≤ (ose : Int32).toInt ∧ (ose : Int32).toInt ≤ 1) (h_n_nodes : 0 ≤ (n_nodes : Int32).toInt ∧ (n_nodes : Int32).toInt ≤ 12) (h_n_fkind : ∀ j : Nat, 0 ≤ (n_fkind j).toInt ∧ (n_fkind j).toInt ≤ 3) : Met l yX3_comesBack (.code yX3_comesBack cX3_comesBack 3 (some .boolean) :: wsL_law) ({ frames := 0, cells := 0, slots := 0, locals := 0 }) (va_Pc [.ref oc, .int p0] (fun U => va_P D vwCl [(oc, .inr (3, [.ref n, .ref sv, .ref oc_plan, .ref ow, .ref ol, .ref oc_reach, .ref oc_ringBits, .int orc, .int orn, .int ose])), (n, .inr (2, [.int n_nodes, .ref n_kind, .ref n_pay, .ref n_name, .ref n_ways, .ref n_held, .ref n_targets, .ref n_weights])), (n_kind, .inl (g 0, 12, .inl n_fkind)), (oc_reach, .inl (g 0, 12, .inl orf))] U.heap ∧ va_K D vwCl (TY g) U)) (vp_Si (fun r => 0 ≤ (r : Int32).toInt ∧ (r : Int32).toInt ≤ 1)) 0 0 (fun _ => False) := by
  refine Met.ofW (cc := cX3_comesBack) (maxL := 3) (ret := (some .boolean)) (by decide) rfl ?_
  intro p e s m args below meth c s₁ B hml hv
  obtain ⟨ha, hP, hK⟩ := hv
  have hx := B.exec
  have hb := B.bytes
  have hr := B.returns
  have hts0 := atoms_spec (ws := (.code yX3_comesBack cX3_comesBack 3 (some .boolean) :: wsL_law)) B.pre
  have hts : ∀ w ∈ wsL_law, w.before args s = true := fun w h => hts0 w (List.mem_cons_of_mem _ h)
  have hown : s.vm.findClass RX3 = some m.cls := findClass_of_methodNamed B.named
  have hlocks := B.notSynchronized
  have hP : va_P D vwCl [(oc, .inr (3, [.ref n, .ref sv, .ref oc_plan, .ref ow, .ref ol, .ref oc_reach, .ref oc_ringBits, .int orc, .int orn, .int ose])), (n, .inr (2, [.int n_nodes, .ref n_kind, .ref n_pay, .ref n_name, .ref n_ways, .ref n_held, .ref n_targets, .ref n_weights])), (n_kind, .inl (g 0, 12, .inl n_fkind)), (oc_reach, .inl (g 0, 12, .inl orf))] s.heap := hP
  refine W.eq (g2 := entryFrame m ([.ref oc, .int p0] : List Value).toArray 3) (by rw [ha]) ?_
  have hl := lv_entry ([.ref oc, .int p0]) (n := 3) (Nat.le_of_ble_eq_true rfl)
  rw [lg_entry_eq]
  generalize (lg_sl ([.ref oc, .int p0]) ++ List.replicate (3 - (lg_sl ([.ref oc, .int p0])).length) Slot.unset).toArray = ls at hl ⊢
  have hl : lv_has ls 3 [(0, .ref oc), (1, .int p0)] := hl
  refine lv_iconst (v := 0) hx hb dX3_comesBack_0 (by decide) ?_
  refine lv_istore_n (lv' := [(2, .int 0), (0, .ref oc), (1, .int p0)]) hx hb dX3_comesBack_1 rfl hl (by decide) rfl (fun ls hl => ?_)
  have lp_110395 : ∀ (n_110395 : Nat) (x_110394 : Int32) (ls : Array Slot), (0 ≤ (x_110394 : Int32).toInt ∧ (x_110394 : Int32).toInt ≤ 12) → (12 - x_110394.toInt < (n_110395 : Int)) → lv_has ls 3 [(2, .int x_110394), (0, .ref oc), (1, .int p0)] → W p l e (headSpec (.code yX3_comesBack cX3_comesBack 3 (some .boolean) :: wsL_law) ({ frames := 0, cells := 0, slots := 0, locals := 0 })).room s m args below meth c s.heap [] 0 0 (MQ below (vp_Si (fun r => 0 ≤ (r : Int32).toInt ∧ (r : Int32).toInt ≤ 1)) args s 0 0 (fun _ => False)) (F0 m 2 ls []) := by
    intro n_110395
    induction n_110395 with
    | zero =>
      intro x_110394 ls h_x_110394 hm_110395 hl
      exfalso; omega
    | succ n_110395 ih_110395 =>
      intro x_110394 ls h_x_110394 hm_110395 hl
      refine lv_iload_n hx hb dX3_comesBack_2 rfl (lv_at hl 0 rfl) ?_
      refine lv_aload_n hx hb dX3_comesBack_3 rfl (lv_at hl 1 rfl) ?_
      refine va_get (D := D) (ci := 3) (v := .ref n) (C := RX3) (T := TX3) (N := 10) hx hb hts inlX3 hown hK hP 0 rfl rfl 0 (by decide) (hts (Cond.fieldLink RX3 31 "ChanceRings$Outcome" "net" "LChanceRings$Net;") qw_636) (fun _ h9 => h9) rfl dX3_comesBack_4 ?_
      refine va_get (D := D) (ci := 2) (v := .int n_nodes) (C := RX2) (T := TX2) (N := 8) hx hb hts inlX2 hown hK hP 1 rfl rfl 0 (by decide) (hts (Cond.fieldLink RX3 63 "ChanceRings$Net" "nodes" "I") qw_637) (fun _ h9 => h9) rfl dX3_comesBack_7 ?_
      refine lv_icmp_ge (tgt := 47) hx hb dX3_comesBack_10 (by decide) (fun c_110396 => ?_) (fun c_110396 => ?_)
      · skip
        refine lv_aload_n hx hb dX3_comesBack_47 rfl (lv_at hl 1 rfl) ?_
        refine va_get (D := D) (ci := 3) (v := .ref n) (C := RX3) (T := TX3) (N := 10) hx hb hts inlX3 hown hK hP 0 rfl rfl 0 (by decide) (hts (Cond.fieldLink RX3 31 "ChanceRings$Outcome" "net" "LChanceRings$Net;") qw_636) (fun _ h9 => h9) rfl dX3_comesBack_48 ?_
        refine va_get (D := D) (ci := 2) (v := .ref n_kind) (C := RX2) (T := TX2) (N := 8) hx hb hts inlX2 hown hK hP 1 rfl rfl 1 (by decide) (hts (Cond.fieldLink RX3 96 "ChanceRings$Net" "kind" "[I") qw_643) (fun _ h9 => h9) rfl dX3_comesBack_51 ?_
        refine lv_iload_n hx hb dX3_comesBack_54 rfl (lv_at hl 2 rfl) ?_
        refine va_iald hx hb hK hP 2 0 rfl rfl (tr_in h_p0 (by decide) (by decide)) dX3_comesBack_55 ?_
        refine lv_topi (fun v_110399 v_110399_e => ?_)
        have h_v_110399 : 0 ≤ (v_110399 : Int32).toInt ∧ (v_110399 : Int32).toInt ≤ 3 := by rw [v_110399_e]; exact h_n_fkind _
        refine lv_if_eq (tgt := 63) hx hb dX3_comesBack_56 (by decide) (fun c_110400 => ?_) (fun c_110400 => ?_)
        · skip
          have c_110400_i := c_110400
          have c_110400_i : (v_110399 : Int32).toInt = (0 : Int32).toInt := congrArg Int32.toInt c_110400
          have h_110401 : 0 ≤ (v_110399 : Int32).toInt ∧ (v_110399 : Int32).toInt ≤ 0 := by have q1 := h_v_110399; have q2 := (⟨by decide, by decide⟩ : 0 ≤ (0 : Int32).toInt ∧ (0 : Int32).toInt ≤ 0); omega
          refine lv_iconst (v := 0) hx hb dX3_comesBack_63 (by decide) ?_
          exact W.zret (v := 0) hx hb hr (by decide) (fun t ht hW => ⟨0, rfl, (⟨by decide, by decide⟩ : 0 ≤ (0 : Int32).toInt ∧ (0 : Int32).toInt ≤ 1), ht⟩) (fun _ h => nomatch h) dX3_comesBack_64
        · skip
          have c_110400_i := c_110400
          have c_110400_i : ¬ (v_110399 : Int32).toInt = (0 : Int32).toInt := (fun q => c_110400 (Int32.toInt_inj.mp q))
          have h_110402 : 1 ≤ (v_110399 : Int32).toInt ∧ (v_110399 : Int32).toInt ≤ 3 := by have q1 := h_v_110399; have q2 := (⟨by decide, by decide⟩ : 0 ≤ (0 : Int32).toInt ∧ (0 : Int32).toInt ≤ 0); omega
          refine lv_iconst (v := 1) hx hb dX3_comesBack_59 (by decide) ?_
          refine lv_goto (tgt := 64) hx hb dX3_comesBack_60 (by decide) ?_
          exact W.zret (v := 1) hx hb hr (by decide) (fun t ht hW => ⟨1, rfl, (⟨by decide, by decide⟩ : 0 ≤ (1 : Int32).toInt ∧ (1 : Int32).toInt ≤ 1), ht⟩) (fun _ h => nomatch h) dX3_comesBack_64
      · skip
        have c_110396_i := Int32.lt_iff_toInt_lt.mp (Int32.not_le.mp c_110396)
        have h_110397 : 0 ≤ (x_110394 : Int32).toInt ∧ (x_110394 : Int32).toInt ≤ 11 := by have q1 := h_x_110394; have q2 := h_n_nodes; omega
        have h_110398 : 1 ≤ (n_nodes : Int32).toInt ∧ (n_nodes : Int32).toInt ≤ 12 := by have q1 := h_x_110394; have q2 := h_n_nodes; omega
        refine lv_aload_n hx hb dX3_comesBack_13 rfl (lv_at hl 1 rfl) ?_
        refine va_get (D := D) (ci := 3) (v := .ref oc_reach) (C := RX3) (T := TX3) (N := 10) hx hb hts inlX3 hown hK hP 0 rfl rfl 5 (by decide) (hts (Cond.fieldLink RX3 25 "ChanceRings$Outcome" "reach" "[I") qw_638) (fun _ h9 => h9) rfl dX3_comesBack_14 ?_
        refine lv_iload_n hx hb dX3_comesBack_17 rfl (lv_at hl 2 rfl) ?_
        refine va_iald hx hb hK hP 3 0 rfl rfl (tr_in h_p0 (by decide) (by decide)) dX3_comesBack_18 ?_
        refine lv_topi (fun v_110403 v_110403_e => ?_)
        refine lv_iload_n hx hb dX3_comesBack_19 rfl (lv_at hl 0 rfl) ?_
        refine lv_ishr hx hb dX3_comesBack_20 ?_
        refine lv_topi (fun v_110404 v_110404_e => ?_)
        refine lv_iconst (v := 1) hx hb dX3_comesBack_21 (by decide) ?_
        refine lv_iand hx hb dX3_comesBack_22 ?_
        refine lv_topi (fun v_110405 v_110405_e => ?_)
        refine lv_if_eq (tgt := 41) hx hb dX3_comesBack_23 (by decide) (fun c_110406 => ?_) (fun c_110406 => ?_)
        · skip
          have h_110407 : 0 ≤ (v_110405 : Int32).toInt ∧ (v_110405 : Int32).toInt ≤ 0 := by rw [c_110406]; exact ⟨by decide, by decide⟩
          obtain ⟨v_110408, v_110408_e⟩ : ∃ y : Int32, y = x_110394 + Int32.ofInt 1 := ⟨_, rfl⟩
          have h_v_110408 : 1 ≤ (v_110408 : Int32).toInt ∧ (v_110408 : Int32).toInt ≤ 12 := by rw [v_110408_e]; exact tr_add h_110397 (⟨by decide, by decide⟩ : 1 ≤ (Int32.ofInt 1 : Int32).toInt ∧ (Int32.ofInt 1 : Int32).toInt ≤ 1) (by decide) (by decide) (by decide) (by decide)
          have q_v_110408 : v_110408.toInt = x_110394.toInt + 1 := by rw [v_110408_e]; exact tr_addE h_110397 (⟨by decide, by decide⟩ : 1 ≤ (Int32.ofInt 1 : Int32).toInt ∧ (Int32.ofInt 1 : Int32).toInt ≤ 1) (by decide) (by decide)
          refine lv_iinc (v := v_110408) (lv' := [(2, .int v_110408), (0, .ref oc), (1, .int p0)]) hx hb dX3_comesBack_41 hl (k := 0) rfl v_110408_e.symm (by decide) rfl (fun ls hl => ?_)
          refine lv_goto (tgt := 2) hx hb dX3_comesBack_44 (by decide) ?_
          exact ih_110395 v_110408 ls (tr_w h_v_110408 (by decide) (by decide)) (by omega) (lv_sub hl [0, 1, 2] rfl)
        · skip
          refine lv_aload_n hx hb dX3_comesBack_26 rfl (lv_at hl 1 rfl) ?_
          refine va_get (D := D) (ci := 3) (v := .ref oc_reach) (C := RX3) (T := TX3) (N := 10) hx hb hts inlX3 hown hK hP 0 rfl rfl 5 (by decide) (hts (Cond.fieldLink RX3 25 "ChanceRings$Outcome" "reach" "[I") qw_638) (fun _ h9 => h9) rfl dX3_comesBack_27 ?_
          refine lv_iload_n hx hb dX3_comesBack_30 rfl (lv_at hl 0 rfl) ?_
          refine va_iald hx hb hK hP 3 0 rfl rfl (tr_in h_110397 (by decide) (by decide)) dX3_comesBack_31 ?_
          refine lv_topi (fun v_110409 v_110409_e => ?_)
          refine lv_iload_n hx hb dX3_comesBack_32 rfl (lv_at hl 2 rfl) ?_
          refine lv_ishr hx hb dX3_comesBack_33 ?_
          refine lv_topi (fun v_110410 v_110410_e => ?_)
          refine lv_iconst (v := 1) hx hb dX3_comesBack_34 (by decide) ?_
          refine lv_iand hx hb dX3_comesBack_35 ?_
          refine lv_topi (fun v_110411 v_110411_e => ?_)
          refine lv_if_ne (tgt := 41) hx hb dX3_comesBack_36 (by decide) (fun c_110412 => ?_) (fun c_110412 => ?_)
          · skip
            obtain ⟨v_110414, v_110414_e⟩ : ∃ y : Int32, y = x_110394 + Int32.ofInt 1 := ⟨_, rfl⟩
            have h_v_110414 : 1 ≤ (v_110414 : Int32).toInt ∧ (v_110414 : Int32).toInt ≤ 12 := by rw [v_110414_e]; exact tr_add h_110397 (⟨by decide, by decide⟩ : 1 ≤ (Int32.ofInt 1 : Int32).toInt ∧ (Int32.ofInt 1 : Int32).toInt ≤ 1) (by decide) (by decide) (by decide) (by decide)
            have q_v_110414 : v_110414.toInt = x_110394.toInt + 1 := by rw [v_110414_e]; exact tr_addE h_110397 (⟨by decide, by decide⟩ : 1 ≤ (Int32.ofInt 1 : Int32).toInt ∧ (Int32.ofInt 1 : Int32).toInt ≤ 1) (by decide) (by decide)
            refine lv_iinc (v := v_110414) (lv' := [(2, .int v_110414), (0, .ref oc), (1, .int p0)]) hx hb dX3_comesBack_41 hl (k := 0) rfl v_110414_e.symm (by decide) rfl (fun ls hl => ?_)
            refine lv_goto (tgt := 2) hx hb dX3_comesBack_44 (by decide) ?_
            exact ih_110395 v_110414 ls (tr_w h_v_110414 (by decide) (by decide)) (by omega) (lv_sub hl [0, 1, 2] rfl)
          · skip
            have h_110413 : 0 ≤ (v_110411 : Int32).toInt ∧ (v_110411 : Int32).toInt ≤ 0 := by rw [c_110412]; exact ⟨by decide, by decide⟩
            refine lv_iconst (v := 0) hx hb dX3_comesBack_39 (by decide) ?_
            exact W.zret (v := 0) hx hb hr (by decide) (fun t ht hW => ⟨0, rfl, (⟨by decide, by decide⟩ : 0 ≤ (0 : Int32).toInt ∧ (0 : Int32).toInt ≤ 1), ht⟩) (fun _ h => nomatch h) dX3_comesBack_40
  exact lp_110395 13 0 ls (⟨by decide, by decide⟩ : 0 ≤ (0 : Int32).toInt ∧ (0 : Int32).toInt ≤ 12) (by decide) (lv_sub hl [0, 1, 2] rfl)
set_option maxHeartbeats 4000000 in
set_option maxRecDepth 100000 in
theorem c_X3_comesToRing (l : Launch) (D : va_G) (g : Nat → ClassId) (oc : Nat) (p0 : Int32) (n : Nat) (sv : Nat) (oc_plan : Nat) (ow : Nat) (ol : Nat) (oc_reach : Nat) (oc_ringBits : Nat) (orc : Int32) (orn : Int32) (ose : Int32) (orf : Nat → Int32) (h_p0 : 0 ≤ (p0 : Int32).toInt ∧ (p0 : Int32).toInt ≤ 11) (h_orc : 0 ≤ (orc : Int32).toInt ∧ (orc : Int32).toInt ≤ 12) (h_ose : 0 ≤ (ose : Int32).toInt ∧ (ose : Int32).toInt ≤ 1) : Met l yX3_comesToRing (.code yX3_comesToRing cX3_comesToRing 2 (some .boolean) :: wsL_law) ({ frames := 0, cells := 0, slots := 0, locals := 0 }) (va_Pc [.ref oc, .int p0] (fun U => va_P D vwCl [(oc, .inr (3, [.ref n, .ref sv, .ref oc_plan, .ref ow, .ref ol, .ref oc_reach, .ref oc_ringBits, .int orc, .int orn, .int ose])), (oc_reach, .inl (g 0, 12, .inl orf))] U.heap ∧ va_K D vwCl (TY g) U)) (vp_Si (fun r => 0 ≤ (r : Int32).toInt ∧ (r : Int32).toInt ≤ 1)) 0 0 (fun _ => False) := by
  refine Met.ofW (cc := cX3_comesToRing) (maxL := 2) (ret := (some .boolean)) (by decide) rfl ?_
  intro p e s m args below meth c s₁ B hml hv
  obtain ⟨ha, hP, hK⟩ := hv
  have hx := B.exec
  have hb := B.bytes
  have hr := B.returns
  have hts0 := atoms_spec (ws := (.code yX3_comesToRing cX3_comesToRing 2 (some .boolean) :: wsL_law)) B.pre
  have hts : ∀ w ∈ wsL_law, w.before args s = true := fun w h => hts0 w (List.mem_cons_of_mem _ h)
  have hown : s.vm.findClass RX3 = some m.cls := findClass_of_methodNamed B.named
  have hlocks := B.notSynchronized
  have hP : va_P D vwCl [(oc, .inr (3, [.ref n, .ref sv, .ref oc_plan, .ref ow, .ref ol, .ref oc_reach, .ref oc_ringBits, .int orc, .int orn, .int ose])), (oc_reach, .inl (g 0, 12, .inl orf))] s.heap := hP
  refine W.eq (g2 := entryFrame m ([.ref oc, .int p0] : List Value).toArray 2) (by rw [ha]) ?_
  have hl := lv_entry ([.ref oc, .int p0]) (n := 2) (Nat.le_of_ble_eq_true rfl)
  rw [lg_entry_eq]
  generalize (lg_sl ([.ref oc, .int p0]) ++ List.replicate (2 - (lg_sl ([.ref oc, .int p0])).length) Slot.unset).toArray = ls at hl ⊢
  have hl : lv_has ls 2 [(0, .ref oc), (1, .int p0)] := hl
  refine lv_aload_n hx hb dX3_comesToRing_0 rfl (lv_at hl 0 rfl) ?_
  refine va_get (D := D) (ci := 3) (v := .ref oc_reach) (C := RX3) (T := TX3) (N := 10) hx hb hts inlX3 hown hK hP 0 rfl rfl 5 (by decide) (hts (Cond.fieldLink RX3 25 "ChanceRings$Outcome" "reach" "[I") qw_638) (fun _ h9 => h9) rfl dX3_comesToRing_1 ?_
  refine lv_iload_n hx hb dX3_comesToRing_4 rfl (lv_at hl 1 rfl) ?_
  refine va_iald hx hb hK hP 1 0 rfl rfl (tr_in h_p0 (by decide) (by decide)) dX3_comesToRing_5 ?_
  refine lv_topi (fun v_110415 v_110415_e => ?_)
  refine lv_aload_n hx hb dX3_comesToRing_6 rfl (lv_at hl 0 rfl) ?_
  refine va_get (D := D) (ci := 3) (v := .int orn) (C := RX3) (T := TX3) (N := 10) hx hb hts inlX3 hown hK hP 0 rfl rfl 8 (by decide) (hts (Cond.fieldLink RX3 90 "ChanceRings$Outcome" "ringNodes" "I") qw_644) (fun _ h9 => h9) rfl dX3_comesToRing_7 ?_
  refine lv_iand hx hb dX3_comesToRing_10 ?_
  refine lv_topi (fun v_110416 v_110416_e => ?_)
  refine lv_if_eq (tgt := 18) hx hb dX3_comesToRing_11 (by decide) (fun c_110417 => ?_) (fun c_110417 => ?_)
  · skip
    have h_110418 : 0 ≤ (v_110416 : Int32).toInt ∧ (v_110416 : Int32).toInt ≤ 0 := by rw [c_110417]; exact ⟨by decide, by decide⟩
    refine lv_iconst (v := 0) hx hb dX3_comesToRing_18 (by decide) ?_
    exact W.zret (v := 0) hx hb hr (by decide) (fun t ht hW => ⟨0, rfl, (⟨by decide, by decide⟩ : 0 ≤ (0 : Int32).toInt ∧ (0 : Int32).toInt ≤ 1), ht⟩) (fun _ h => nomatch h) dX3_comesToRing_19
  · skip
    refine lv_iconst (v := 1) hx hb dX3_comesToRing_14 (by decide) ?_
    refine lv_goto (tgt := 19) hx hb dX3_comesToRing_15 (by decide) ?_
    exact W.zret (v := 1) hx hb hr (by decide) (fun t ht hW => ⟨1, rfl, (⟨by decide, by decide⟩ : 0 ≤ (1 : Int32).toInt ∧ (1 : Int32).toInt ≤ 1), ht⟩) (fun _ h => nomatch h) dX3_comesToRing_19
set_option maxHeartbeats 4000000 in
set_option maxRecDepth 100000 in
theorem c_X3_findRings (l : Launch) (D : va_G) (g : Nat → ClassId) (sz : Nat) (oc : Nat) (n : Nat) (sv : Nat) (oc_plan : Nat) (ow : Nat) (ol : Nat) (oc_reach : Nat) (oc_ringBits : Nat) (orc : Int32) (orn : Int32) (ose : Int32) (n_nodes : Int32) (n_kind : Nat) (n_pay : Nat) (n_name : Nat) (n_ways : Nat) (n_held : Nat) (n_targets : Nat) (n_weights : Nat) (n_fkind : Nat → Int32) (orf : Nat → Int32) (obf : Nat → Int32) (h_orc : 0 ≤ (orc : Int32).toInt ∧ (orc : Int32).toInt ≤ 12) (h_ose : 0 ≤ (ose : Int32).toInt ∧ (ose : Int32).toInt ≤ 1) (h_n_nodes : 0 ≤ (n_nodes : Int32).toInt ∧ (n_nodes : Int32).toInt ≤ 12) (h_n_fkind : ∀ j : Nat, 0 ≤ (n_fkind j).toInt ∧ (n_fkind j).toInt ≤ 3) : Met l yX3_findRings (.code yX3_findRings cX3_findRings 2 none :: wsL_law) ({ frames := 1, cells := 0, slots := 0, locals := 22 }) (va_Pc [.ref oc] (fun U => U.heap.size = sz ∧ va_P D vwCl [(oc, .inr (3, [.ref n, .ref sv, .ref oc_plan, .ref ow, .ref ol, .ref oc_reach, .ref oc_ringBits, .int orc, .int orn, .int ose])), (n, .inr (2, [.int n_nodes, .ref n_kind, .ref n_pay, .ref n_name, .ref n_ways, .ref n_held, .ref n_targets, .ref n_weights])), (n_kind, .inl (g 0, 12, .inl n_fkind)), (oc_reach, .inl (g 0, 12, .inl orf)), (oc_ringBits, .inl (g 0, 12, .inl obf))] U.heap ∧ va_K D vwCl (TY g) U ∧ va_D (fun _ => True) [(oc, .inr (3, [.ref n, .ref sv, .ref oc_plan, .ref ow, .ref ol, .ref oc_reach, .ref oc_ringBits, .int orc, .int orn, .int ose])), (n, .inr (2, [.int n_nodes, .ref n_kind, .ref n_pay, .ref n_name, .ref n_ways, .ref n_held, .ref n_targets, .ref n_weights])), (n_kind, .inl (g 0, 12, .inl n_fkind)), (oc_reach, .inl (g 0, 12, .inl orf)), (oc_ringBits, .inl (g 0, 12, .inl obf))])) (va_Qv (fun (_ : Unit) => True) (fun _ t => ∃ xrc : Int32, ∃ xrn : Int32, ∃ xbf : Nat → Int32, (0 ≤ (xrc : Int32).toInt ∧ (xrc : Int32).toInt ≤ 12) ∧ va_P D vwCl [(oc, .inr (3, [.ref n, .ref sv, .ref oc_plan, .ref ow, .ref ol, .ref oc_reach, .ref oc_ringBits, .int xrc, .int xrn, .int ose])), (n, .inr (2, [.int n_nodes, .ref n_kind, .ref n_pay, .ref n_name, .ref n_ways, .ref n_held, .ref n_targets, .ref n_weights])), (n_kind, .inl (g 0, 12, .inl n_fkind)), (oc_reach, .inl (g 0, 12, .inl orf)), (oc_ringBits, .inl (g 0, 12, .inl xbf))] t.heap ∧ va_D (va_A [(oc, .inr (3, [.ref n, .ref sv, .ref oc_plan, .ref ow, .ref ol, .ref oc_reach, .ref oc_ringBits, .int orc, .int orn, .int ose])), (n, .inr (2, [.int n_nodes, .ref n_kind, .ref n_pay, .ref n_name, .ref n_ways, .ref n_held, .ref n_targets, .ref n_weights])), (n_kind, .inl (g 0, 12, .inl n_fkind)), (oc_reach, .inl (g 0, 12, .inl orf)), (oc_ringBits, .inl (g 0, 12, .inl obf))] sz) [(oc, .inr (3, [.ref n, .ref sv, .ref oc_plan, .ref ow, .ref ol, .ref oc_reach, .ref oc_ringBits, .int xrc, .int xrn, .int ose])), (n, .inr (2, [.int n_nodes, .ref n_kind, .ref n_pay, .ref n_name, .ref n_ways, .ref n_held, .ref n_targets, .ref n_weights])), (n_kind, .inl (g 0, 12, .inl n_fkind)), (oc_reach, .inl (g 0, 12, .inl orf)), (oc_ringBits, .inl (g 0, 12, .inl xbf))]) (va_A [(oc, .inr (3, [.ref n, .ref sv, .ref oc_plan, .ref ow, .ref ol, .ref oc_reach, .ref oc_ringBits, .int orc, .int orn, .int ose])), (n, .inr (2, [.int n_nodes, .ref n_kind, .ref n_pay, .ref n_name, .ref n_ways, .ref n_held, .ref n_targets, .ref n_weights])), (n_kind, .inl (g 0, 12, .inl n_fkind)), (oc_reach, .inl (g 0, 12, .inl orf)), (oc_ringBits, .inl (g 0, 12, .inl obf))] sz)) 0 0 (va_A [(oc, .inr (3, [.ref n, .ref sv, .ref oc_plan, .ref ow, .ref ol, .ref oc_reach, .ref oc_ringBits, .int orc, .int orn, .int ose])), (n, .inr (2, [.int n_nodes, .ref n_kind, .ref n_pay, .ref n_name, .ref n_ways, .ref n_held, .ref n_targets, .ref n_weights])), (n_kind, .inl (g 0, 12, .inl n_fkind)), (oc_reach, .inl (g 0, 12, .inl orf)), (oc_ringBits, .inl (g 0, 12, .inl obf))] sz) := by
  refine Met.ofW (cc := cX3_findRings) (maxL := 2) (ret := none) (by decide) rfl ?_
  intro p e s m args below meth c s₁ B hml hv
  obtain ⟨ha, hsz, hP, hK, hD0⟩ := hv
  have hx := B.exec
  have hb := B.bytes
  have hr := B.returns
  have hts0 := atoms_spec (ws := (.code yX3_findRings cX3_findRings 2 none :: wsL_law)) B.pre
  have hts : ∀ w ∈ wsL_law, w.before args s = true := fun w h => hts0 w (List.mem_cons_of_mem _ h)
  have hown : s.vm.findClass RX3 = some m.cls := findClass_of_methodNamed B.named
  have hlocks := B.notSynchronized
  subst hsz
  have hD := hD0.self (sz := s.heap.size)
  generalize hAe : va_A [(oc, .inr (3, [.ref n, .ref sv, .ref oc_plan, .ref ow, .ref ol, .ref oc_reach, .ref oc_ringBits, .int orc, .int orn, .int ose])), (n, .inr (2, [.int n_nodes, .ref n_kind, .ref n_pay, .ref n_name, .ref n_ways, .ref n_held, .ref n_targets, .ref n_weights])), (n_kind, .inl (g 0, 12, .inl n_fkind)), (oc_reach, .inl (g 0, 12, .inl orf)), (oc_ringBits, .inl (g 0, 12, .inl obf))] s.heap.size = A at hD ⊢
  have hA : ∀ q : Nat, s.heap.size ≤ q → A q := fun q h => by rw [← hAe]; exact Or.inr h
  have hS : va_S A s.heap s.heap [] := va_S.rf
  have hP : va_P D vwCl [(oc, .inr (3, [.ref n, .ref sv, .ref oc_plan, .ref ow, .ref ol, .ref oc_reach, .ref oc_ringBits, .int orc, .int orn, .int ose])), (n, .inr (2, [.int n_nodes, .ref n_kind, .ref n_pay, .ref n_name, .ref n_ways, .ref n_held, .ref n_targets, .ref n_weights])), (n_kind, .inl (g 0, 12, .inl n_fkind)), (oc_reach, .inl (g 0, 12, .inl orf)), (oc_ringBits, .inl (g 0, 12, .inl obf))] s.heap := hP
  refine W.eq (g2 := entryFrame m ([.ref oc] : List Value).toArray 2) (by rw [ha]) ?_
  have hl := lv_entry ([.ref oc]) (n := 2) (Nat.le_of_ble_eq_true rfl)
  rw [lg_entry_eq]
  generalize (lg_sl ([.ref oc]) ++ List.replicate (2 - (lg_sl ([.ref oc])).length) Slot.unset).toArray = ls at hl ⊢
  have hl : lv_has ls 2 [(0, .ref oc)] := hl
  refine lv_aload_n hx hb dX3_findRings_0 rfl (lv_at hl 0 rfl) ?_
  refine lv_iconst (v := 0) hx hb dX3_findRings_1 (by decide) ?_
  refine va_put (D := D) (ci := 3) (v := .int 0) (ty := .int) (C := RX3) (T := TX3) (N := 10) hx hb hts inlX3 tyX3 tyX3_ok nmX3 hown hK hP hD hS 0 rfl rfl 7 (by decide) (hts (Cond.fieldLink RX3 87 "ChanceRings$Outcome" "ringCount" "I") qw_645) (fun _ h9 => h9) rfl (by decide +kernel) rfl rfl (Nat.le_of_ble_eq_true rfl) dX3_findRings_2 (fun H locs hP hD hS => ?_)
  have hP : va_P D vwCl [(oc, .inr (3, [.ref n, .ref sv, .ref oc_plan, .ref ow, .ref ol, .ref oc_reach, .ref oc_ringBits, .int 0, .int orn, .int ose])), (n, .inr (2, [.int n_nodes, .ref n_kind, .ref n_pay, .ref n_name, .ref n_ways, .ref n_held, .ref n_targets, .ref n_weights])), (n_kind, .inl (g 0, 12, .inl n_fkind)), (oc_reach, .inl (g 0, 12, .inl orf)), (oc_ringBits, .inl (g 0, 12, .inl obf))] H := hP
  have hD : va_D A [(oc, .inr (3, [.ref n, .ref sv, .ref oc_plan, .ref ow, .ref ol, .ref oc_reach, .ref oc_ringBits, .int 0, .int orn, .int ose])), (n, .inr (2, [.int n_nodes, .ref n_kind, .ref n_pay, .ref n_name, .ref n_ways, .ref n_held, .ref n_targets, .ref n_weights])), (n_kind, .inl (g 0, 12, .inl n_fkind)), (oc_reach, .inl (g 0, 12, .inl orf)), (oc_ringBits, .inl (g 0, 12, .inl obf))] := hD
  refine lv_aload_n hx hb dX3_findRings_5 rfl (lv_at hl 0 rfl) ?_
  refine lv_iconst (v := 0) hx hb dX3_findRings_6 (by decide) ?_
  refine va_put (D := D) (ci := 3) (v := .int 0) (ty := .int) (C := RX3) (T := TX3) (N := 10) hx hb hts inlX3 tyX3 tyX3_ok nmX3 hown hK hP hD hS 0 rfl rfl 8 (by decide) (hts (Cond.fieldLink RX3 90 "ChanceRings$Outcome" "ringNodes" "I") qw_644) (fun _ h9 => h9) rfl (by decide +kernel) rfl rfl (Nat.le_of_ble_eq_true rfl) dX3_findRings_7 (fun H locs hP hD hS => ?_)
  have hP : va_P D vwCl [(oc, .inr (3, [.ref n, .ref sv, .ref oc_plan, .ref ow, .ref ol, .ref oc_reach, .ref oc_ringBits, .int 0, .int 0, .int ose])), (n, .inr (2, [.int n_nodes, .ref n_kind, .ref n_pay, .ref n_name, .ref n_ways, .ref n_held, .ref n_targets, .ref n_weights])), (n_kind, .inl (g 0, 12, .inl n_fkind)), (oc_reach, .inl (g 0, 12, .inl orf)), (oc_ringBits, .inl (g 0, 12, .inl obf))] H := hP
  have hD : va_D A [(oc, .inr (3, [.ref n, .ref sv, .ref oc_plan, .ref ow, .ref ol, .ref oc_reach, .ref oc_ringBits, .int 0, .int 0, .int ose])), (n, .inr (2, [.int n_nodes, .ref n_kind, .ref n_pay, .ref n_name, .ref n_ways, .ref n_held, .ref n_targets, .ref n_weights])), (n_kind, .inl (g 0, 12, .inl n_fkind)), (oc_reach, .inl (g 0, 12, .inl orf)), (oc_ringBits, .inl (g 0, 12, .inl obf))] := hD
  refine lv_iconst (v := 0) hx hb dX3_findRings_10 (by decide) ?_
  refine lv_istore_n (lv' := [(1, .int 0), (0, .ref oc)]) hx hb dX3_findRings_11 rfl hl (by decide) rfl (fun ls hl => ?_)
  have lp_110605 : ∀ (n_110605 : Nat) (x_110601 : Int32) (x_110602 : Int32) (x_110603 : Int32) (f_110604 : Nat → Int32) (H : Heap) (locs : List Loc) (ls : Array Slot), (0 ≤ (x_110601 : Int32).toInt ∧ (x_110601 : Int32).toInt ≤ 12) → (0 ≤ (x_110602 : Int32).toInt ∧ (x_110602 : Int32).toInt ≤ 12) → (x_110601.toInt ≤ (x_110602 : Int32).toInt) → (12 - x_110602.toInt < (n_110605 : Int)) → va_P D vwCl [(oc, .inr (3, [.ref n, .ref sv, .ref oc_plan, .ref ow, .ref ol, .ref oc_reach, .ref oc_ringBits, .int x_110601, .int x_110603, .int ose])), (n, .inr (2, [.int n_nodes, .ref n_kind, .ref n_pay, .ref n_name, .ref n_ways, .ref n_held, .ref n_targets, .ref n_weights])), (n_kind, .inl (g 0, 12, .inl n_fkind)), (oc_reach, .inl (g 0, 12, .inl orf)), (oc_ringBits, .inl (g 0, 12, .inl f_110604))] H → va_D A [(oc, .inr (3, [.ref n, .ref sv, .ref oc_plan, .ref ow, .ref ol, .ref oc_reach, .ref oc_ringBits, .int x_110601, .int x_110603, .int ose])), (n, .inr (2, [.int n_nodes, .ref n_kind, .ref n_pay, .ref n_name, .ref n_ways, .ref n_held, .ref n_targets, .ref n_weights])), (n_kind, .inl (g 0, 12, .inl n_fkind)), (oc_reach, .inl (g 0, 12, .inl orf)), (oc_ringBits, .inl (g 0, 12, .inl f_110604))] → va_S A s.heap H locs → lv_has ls 2 [(1, .int x_110602), (0, .ref oc)] → W p l e (headSpec (.code yX3_findRings cX3_findRings 2 none :: wsL_law) ({ frames := 1, cells := 0, slots := 0, locals := 22 })).room s m args below meth c H locs 0 0 (MQ below (va_Qv (fun (_ : Unit) => True) (fun _ t => ∃ xrc : Int32, ∃ xrn : Int32, ∃ xbf : Nat → Int32, (0 ≤ (xrc : Int32).toInt ∧ (xrc : Int32).toInt ≤ 12) ∧ va_P D vwCl [(oc, .inr (3, [.ref n, .ref sv, .ref oc_plan, .ref ow, .ref ol, .ref oc_reach, .ref oc_ringBits, .int xrc, .int xrn, .int ose])), (n, .inr (2, [.int n_nodes, .ref n_kind, .ref n_pay, .ref n_name, .ref n_ways, .ref n_held, .ref n_targets, .ref n_weights])), (n_kind, .inl (g 0, 12, .inl n_fkind)), (oc_reach, .inl (g 0, 12, .inl orf)), (oc_ringBits, .inl (g 0, 12, .inl xbf))] t.heap ∧ va_D A [(oc, .inr (3, [.ref n, .ref sv, .ref oc_plan, .ref ow, .ref ol, .ref oc_reach, .ref oc_ringBits, .int xrc, .int xrn, .int ose])), (n, .inr (2, [.int n_nodes, .ref n_kind, .ref n_pay, .ref n_name, .ref n_ways, .ref n_held, .ref n_targets, .ref n_weights])), (n_kind, .inl (g 0, 12, .inl n_fkind)), (oc_reach, .inl (g 0, 12, .inl orf)), (oc_ringBits, .inl (g 0, 12, .inl xbf))]) A) args s 0 0 A) (F0 m 12 ls []) := by
    intro n_110605
    induction n_110605 with
    | zero =>
      intro x_110601 x_110602 x_110603 f_110604 H locs ls h_x_110601 h_x_110602 hr110605_0 hm_110605 hP hD hS hl
      exfalso; omega
    | succ n_110605 ih_110605 =>
      intro x_110601 x_110602 x_110603 f_110604 H locs ls h_x_110601 h_x_110602 hr110605_0 hm_110605 hP hD hS hl
      refine lv_iload_n hx hb dX3_findRings_12 rfl (lv_at hl 0 rfl) ?_
      refine lv_aload_n hx hb dX3_findRings_13 rfl (lv_at hl 1 rfl) ?_
      refine va_get (D := D) (ci := 3) (v := .ref n) (C := RX3) (T := TX3) (N := 10) hx hb hts inlX3 hown hK hP 0 rfl rfl 0 (by decide) (hts (Cond.fieldLink RX3 31 "ChanceRings$Outcome" "net" "LChanceRings$Net;") qw_636) (fun _ h9 => h9) rfl dX3_findRings_14 ?_
      refine va_get (D := D) (ci := 2) (v := .int n_nodes) (C := RX2) (T := TX2) (N := 8) hx hb hts inlX2 hown hK hP 1 rfl rfl 0 (by decide) (hts (Cond.fieldLink RX3 63 "ChanceRings$Net" "nodes" "I") qw_637) (fun _ h9 => h9) rfl dX3_findRings_17 ?_
      refine lv_icmp_ge (tgt := 88) hx hb dX3_findRings_20 (by decide) (fun c_110606 => ?_) (fun c_110606 => ?_)
      · skip
        have hP9 := hP.sub (ws' := [(oc, .inr (3, [.ref n, .ref sv, .ref oc_plan, .ref ow, .ref ol, .ref oc_reach, .ref oc_ringBits, .int x_110601, .int x_110603, .int ose])), (n, .inr (2, [.int n_nodes, .ref n_kind, .ref n_pay, .ref n_name, .ref n_ways, .ref n_held, .ref n_targets, .ref n_weights])), (n_kind, .inl (g 0, 12, .inl n_fkind)), (oc_reach, .inl (g 0, 12, .inl orf)), (oc_ringBits, .inl (g 0, 12, .inl f_110604))]) [0, 1, 2, 3, 4] rfl
        have hD9 := hD.sub (ws' := [(oc, .inr (3, [.ref n, .ref sv, .ref oc_plan, .ref ow, .ref ol, .ref oc_reach, .ref oc_ringBits, .int x_110601, .int x_110603, .int ose])), (n, .inr (2, [.int n_nodes, .ref n_kind, .ref n_pay, .ref n_name, .ref n_ways, .ref n_held, .ref n_targets, .ref n_weights])), (n_kind, .inl (g 0, 12, .inl n_fkind)), (oc_reach, .inl (g 0, 12, .inl orf)), (oc_ringBits, .inl (g 0, 12, .inl f_110604))]) [0, 1, 2, 3, 4] (by decide) rfl
        exact W.vret hx hb hr (fun t ht hW => ⟨⟨(), rfl, trivial, x_110601, x_110603, f_110604, (tr_w h_x_110601 (by decide) (by decide)), by rw [ht]; exact hP9, hD9⟩, hS.F ht⟩) hS.2.2 dX3_findRings_88
      · skip
        have c_110606_i := Int32.lt_iff_toInt_lt.mp (Int32.not_le.mp c_110606)
        have h_110607 : 0 ≤ (x_110602 : Int32).toInt ∧ (x_110602 : Int32).toInt ≤ 11 := by have q1 := h_x_110602; have q2 := h_n_nodes; omega
        have h_110608 : 1 ≤ (n_nodes : Int32).toInt ∧ (n_nodes : Int32).toInt ≤ 12 := by have q1 := h_x_110602; have q2 := h_n_nodes; omega
        refine lv_aload_n hx hb dX3_findRings_23 rfl (lv_at hl 1 rfl) ?_
        refine va_get (D := D) (ci := 3) (v := .int x_110603) (C := RX3) (T := TX3) (N := 10) hx hb hts inlX3 hown hK hP 0 rfl rfl 8 (by decide) (hts (Cond.fieldLink RX3 90 "ChanceRings$Outcome" "ringNodes" "I") qw_644) (fun _ h9 => h9) rfl dX3_findRings_24 ?_
        refine lv_iload_n hx hb dX3_findRings_27 rfl (lv_at hl 0 rfl) ?_
        refine lv_ishr hx hb dX3_findRings_28 ?_
        refine lv_topi (fun v_110609 v_110609_e => ?_)
        have h_110610 : 0 ≤ (x_110601 : Int32).toInt ∧ (x_110601 : Int32).toInt ≤ 11 := by omega
        refine lv_iconst (v := 1) hx hb dX3_findRings_29 (by decide) ?_
        refine lv_iand hx hb dX3_findRings_30 ?_
        refine lv_topi (fun v_110611 v_110611_e => ?_)
        refine lv_if_ne (tgt := 82) hx hb dX3_findRings_31 (by decide) (fun c_110612 => ?_) (fun c_110612 => ?_)
        · skip
          obtain ⟨v_110614, v_110614_e⟩ : ∃ y : Int32, y = x_110602 + Int32.ofInt 1 := ⟨_, rfl⟩
          have h_v_110614 : 1 ≤ (v_110614 : Int32).toInt ∧ (v_110614 : Int32).toInt ≤ 12 := by rw [v_110614_e]; exact tr_add h_110607 (⟨by decide, by decide⟩ : 1 ≤ (Int32.ofInt 1 : Int32).toInt ∧ (Int32.ofInt 1 : Int32).toInt ≤ 1) (by decide) (by decide) (by decide) (by decide)
          have q_v_110614 : v_110614.toInt = x_110602.toInt + 1 := by rw [v_110614_e]; exact tr_addE h_110607 (⟨by decide, by decide⟩ : 1 ≤ (Int32.ofInt 1 : Int32).toInt ∧ (Int32.ofInt 1 : Int32).toInt ≤ 1) (by decide) (by decide)
          refine lv_iinc (v := v_110614) (lv' := [(1, .int v_110614), (0, .ref oc)]) hx hb dX3_findRings_82 hl (k := 0) rfl v_110614_e.symm (by decide) rfl (fun ls hl => ?_)
          refine lv_goto (tgt := 12) hx hb dX3_findRings_85 (by decide) ?_
          exact ih_110605 x_110601 v_110614 x_110603 f_110604 H _ ls (tr_w h_110610 (by decide) (by decide)) (tr_w h_v_110614 (by decide) (by decide)) (by omega) (by omega) (hP.sub [0, 1, 2, 3, 4] rfl) (hD.sub [0, 1, 2, 3, 4] (by decide) rfl) hS (lv_sub hl [0, 1] rfl)
        · skip
          have h_110613 : 0 ≤ (v_110611 : Int32).toInt ∧ (v_110611 : Int32).toInt ≤ 0 := by rw [c_110612]; exact ⟨by decide, by decide⟩
          refine lv_aload_n hx hb dX3_findRings_34 rfl (lv_at hl 1 rfl) ?_
          refine lv_iload_n hx hb dX3_findRings_35 rfl (lv_at hl 0 rfl) ?_
          have hPc := hP.sub (ws' := [(oc, .inr (3, [.ref n, .ref sv, .ref oc_plan, .ref ow, .ref ol, .ref oc_reach, .ref oc_ringBits, .int x_110601, .int x_110603, .int ose])), (n, .inr (2, [.int n_nodes, .ref n_kind, .ref n_pay, .ref n_name, .ref n_ways, .ref n_held, .ref n_targets, .ref n_weights])), (n_kind, .inl (g 0, 12, .inl n_fkind)), (oc_reach, .inl (g 0, 12, .inl orf))]) [0, 1, 2, 3] rfl
          refine vp_callSi (va_Run.run (va_runV (As := [.int x_110602]) (rest := []) ⟨hx, hb, hml, hown, hts⟩ (c_X3_comesBack l D g oc x_110602 n sv oc_plan ow ol oc_reach oc_ringBits x_110601 x_110603 ose n_nodes n_kind n_pay n_name n_ways n_held n_targets n_weights n_fkind orf (tr_w h_110607 (by decide) (by decide)) (tr_w h_110610 (by decide) (by decide)) (tr_w h_ose (by decide) (by decide)) (tr_w h_110608 (by decide) (by decide)) (tr_wa h_n_fkind (by decide) (by decide))) (cwV 1 hts (tz_gV qw_646 qw_647 qw_648 qw_649 qw_650) rfl rfl rfl (by decide +kernel) ⟨Nat.le_of_ble_eq_true rfl, Nat.le_of_ble_eq_true rfl⟩) ⟨tz_blS, va_recv hK hPc (ci := 3) (q0 := 0) rfl rfl, tz_preS hPc hK⟩ rfl rfl hl.1 rfl (lv_room (Nat.le_of_ble_eq_true rfl)) dX3_findRings_36 ⟨Nat.le_of_ble_eq_true rfl, Nat.le_of_ble_eq_true rfl⟩)) (fun r_110615 hw => ?_)
          have hw_110616 : 0 ≤ (r_110615 : Int32).toInt ∧ (r_110615 : Int32).toInt ≤ 1 := hw
          refine lv_if_eq (tgt := 82) hx hb dX3_findRings_39 (by decide) (fun c_110617 => ?_) (fun c_110617 => ?_)
          · skip
            have c_110617_i := c_110617
            have c_110617_i : (r_110615 : Int32).toInt = (0 : Int32).toInt := congrArg Int32.toInt c_110617
            have h_110618 : 0 ≤ (r_110615 : Int32).toInt ∧ (r_110615 : Int32).toInt ≤ 0 := by have q1 := hw_110616; have q2 := (⟨by decide, by decide⟩ : 0 ≤ (0 : Int32).toInt ∧ (0 : Int32).toInt ≤ 0); omega
            obtain ⟨v_110620, v_110620_e⟩ : ∃ y : Int32, y = x_110602 + Int32.ofInt 1 := ⟨_, rfl⟩
            have h_v_110620 : 1 ≤ (v_110620 : Int32).toInt ∧ (v_110620 : Int32).toInt ≤ 12 := by rw [v_110620_e]; exact tr_add h_110607 (⟨by decide, by decide⟩ : 1 ≤ (Int32.ofInt 1 : Int32).toInt ∧ (Int32.ofInt 1 : Int32).toInt ≤ 1) (by decide) (by decide) (by decide) (by decide)
            have q_v_110620 : v_110620.toInt = x_110602.toInt + 1 := by rw [v_110620_e]; exact tr_addE h_110607 (⟨by decide, by decide⟩ : 1 ≤ (Int32.ofInt 1 : Int32).toInt ∧ (Int32.ofInt 1 : Int32).toInt ≤ 1) (by decide) (by decide)
            refine lv_iinc (v := v_110620) (lv' := [(1, .int v_110620), (0, .ref oc)]) hx hb dX3_findRings_82 hl (k := 0) rfl v_110620_e.symm (by decide) rfl (fun ls hl => ?_)
            refine lv_goto (tgt := 12) hx hb dX3_findRings_85 (by decide) ?_
            exact ih_110605 x_110601 v_110620 x_110603 f_110604 H _ ls (tr_w h_110610 (by decide) (by decide)) (tr_w h_v_110620 (by decide) (by decide)) (by omega) (by omega) (hP.sub [0, 1, 2, 3, 4] rfl) (hD.sub [0, 1, 2, 3, 4] (by decide) rfl) hS (lv_sub hl [0, 1] rfl)
          · skip
            have c_110617_i := c_110617
            have c_110617_i : ¬ (r_110615 : Int32).toInt = (0 : Int32).toInt := (fun q => c_110617 (Int32.toInt_inj.mp q))
            have h_110619 : 1 ≤ (r_110615 : Int32).toInt ∧ (r_110615 : Int32).toInt ≤ 1 := by have q1 := hw_110616; have q2 := (⟨by decide, by decide⟩ : 0 ≤ (0 : Int32).toInt ∧ (0 : Int32).toInt ≤ 0); omega
            refine lv_aload_n hx hb dX3_findRings_42 rfl (lv_at hl 1 rfl) ?_
            refine va_get (D := D) (ci := 3) (v := .ref oc_ringBits) (C := RX3) (T := TX3) (N := 10) hx hb hts inlX3 hown hK hP 0 rfl rfl 6 (by decide) (hts (Cond.fieldLink RX3 28 "ChanceRings$Outcome" "ringBits" "[I") qw_651) (fun _ h9 => h9) rfl dX3_findRings_43 ?_
            refine lv_aload_n hx hb dX3_findRings_46 rfl (lv_at hl 1 rfl) ?_
            refine va_get (D := D) (ci := 3) (v := .int x_110601) (C := RX3) (T := TX3) (N := 10) hx hb hts inlX3 hown hK hP 0 rfl rfl 7 (by decide) (hts (Cond.fieldLink RX3 87 "ChanceRings$Outcome" "ringCount" "I") qw_645) (fun _ h9 => h9) rfl dX3_findRings_47 ?_
            refine lv_aload_n hx hb dX3_findRings_50 rfl (lv_at hl 1 rfl) ?_
            refine va_get (D := D) (ci := 3) (v := .ref oc_reach) (C := RX3) (T := TX3) (N := 10) hx hb hts inlX3 hown hK hP 0 rfl rfl 5 (by decide) (hts (Cond.fieldLink RX3 25 "ChanceRings$Outcome" "reach" "[I") qw_638) (fun _ h9 => h9) rfl dX3_findRings_51 ?_
            refine lv_iload_n hx hb dX3_findRings_54 rfl (lv_at hl 0 rfl) ?_
            refine va_iald hx hb hK hP 3 0 rfl rfl (tr_in h_110607 (by decide) (by decide)) dX3_findRings_55 ?_
            refine lv_topi (fun v_110621 v_110621_e => ?_)
            refine va_iast hx hb hK hP hD hS 4 0 rfl rfl (tr_in h_110610 (by decide) (by decide)) dX3_findRings_56 (fun H locs hP hD hS => ?_)
            obtain ⟨f_110622, hP, hD⟩ : ∃ FX : Nat → Int32, va_P D vwCl [(oc, .inr (3, [.ref n, .ref sv, .ref oc_plan, .ref ow, .ref ol, .ref oc_reach, .ref oc_ringBits, .int x_110601, .int x_110603, .int ose])), (n, .inr (2, [.int n_nodes, .ref n_kind, .ref n_pay, .ref n_name, .ref n_ways, .ref n_held, .ref n_targets, .ref n_weights])), (n_kind, .inl (g 0, 12, .inl n_fkind)), (oc_reach, .inl (g 0, 12, .inl orf)), (oc_ringBits, .inl (g 0, 12, .inl FX))] H ∧ va_D A [(oc, .inr (3, [.ref n, .ref sv, .ref oc_plan, .ref ow, .ref ol, .ref oc_reach, .ref oc_ringBits, .int x_110601, .int x_110603, .int ose])), (n, .inr (2, [.int n_nodes, .ref n_kind, .ref n_pay, .ref n_name, .ref n_ways, .ref n_held, .ref n_targets, .ref n_weights])), (n_kind, .inl (g 0, 12, .inl n_fkind)), (oc_reach, .inl (g 0, 12, .inl orf)), (oc_ringBits, .inl (g 0, 12, .inl FX))] := ⟨_, hP, hD⟩
            have hP : va_P D vwCl [(oc, .inr (3, [.ref n, .ref sv, .ref oc_plan, .ref ow, .ref ol, .ref oc_reach, .ref oc_ringBits, .int x_110601, .int x_110603, .int ose])), (n, .inr (2, [.int n_nodes, .ref n_kind, .ref n_pay, .ref n_name, .ref n_ways, .ref n_held, .ref n_targets, .ref n_weights])), (n_kind, .inl (g 0, 12, .inl n_fkind)), (oc_reach, .inl (g 0, 12, .inl orf)), (oc_ringBits, .inl (g 0, 12, .inl f_110622))] H := hP
            have hD : va_D A [(oc, .inr (3, [.ref n, .ref sv, .ref oc_plan, .ref ow, .ref ol, .ref oc_reach, .ref oc_ringBits, .int x_110601, .int x_110603, .int ose])), (n, .inr (2, [.int n_nodes, .ref n_kind, .ref n_pay, .ref n_name, .ref n_ways, .ref n_held, .ref n_targets, .ref n_weights])), (n_kind, .inl (g 0, 12, .inl n_fkind)), (oc_reach, .inl (g 0, 12, .inl orf)), (oc_ringBits, .inl (g 0, 12, .inl f_110622))] := hD
            refine lv_aload_n hx hb dX3_findRings_57 rfl (lv_at hl 1 rfl) ?_
            refine lv_dup hx hb dX3_findRings_58 rfl ?_
            refine va_get (D := D) (ci := 3) (v := .int x_110603) (C := RX3) (T := TX3) (N := 10) hx hb hts inlX3 hown hK hP 0 rfl rfl 8 (by decide) (hts (Cond.fieldLink RX3 90 "ChanceRings$Outcome" "ringNodes" "I") qw_644) (fun _ h9 => h9) rfl dX3_findRings_59 ?_
            refine lv_aload_n hx hb dX3_findRings_62 rfl (lv_at hl 1 rfl) ?_
            refine va_get (D := D) (ci := 3) (v := .ref oc_reach) (C := RX3) (T := TX3) (N := 10) hx hb hts inlX3 hown hK hP 0 rfl rfl 5 (by decide) (hts (Cond.fieldLink RX3 25 "ChanceRings$Outcome" "reach" "[I") qw_638) (fun _ h9 => h9) rfl dX3_findRings_63 ?_
            refine lv_iload_n hx hb dX3_findRings_66 rfl (lv_at hl 0 rfl) ?_
            refine va_iald hx hb hK hP 3 0 rfl rfl (tr_in h_110607 (by decide) (by decide)) dX3_findRings_67 ?_
            refine tz_i (y := v_110621) v_110621_e.symm ?_
            refine lv_ior hx hb dX3_findRings_68 ?_
            refine lv_topi (fun v_110623 v_110623_e => ?_)
            refine va_put (D := D) (ci := 3) (v := .int v_110623) (ty := .int) (C := RX3) (T := TX3) (N := 10) hx hb hts inlX3 tyX3 tyX3_ok nmX3 hown hK hP hD hS 0 rfl rfl 8 (by decide) (hts (Cond.fieldLink RX3 90 "ChanceRings$Outcome" "ringNodes" "I") qw_644) (fun _ h9 => h9) rfl (by decide +kernel) rfl rfl (Nat.le_of_ble_eq_true rfl) dX3_findRings_69 (fun H locs hP hD hS => ?_)
            have hP : va_P D vwCl [(oc, .inr (3, [.ref n, .ref sv, .ref oc_plan, .ref ow, .ref ol, .ref oc_reach, .ref oc_ringBits, .int x_110601, .int v_110623, .int ose])), (n, .inr (2, [.int n_nodes, .ref n_kind, .ref n_pay, .ref n_name, .ref n_ways, .ref n_held, .ref n_targets, .ref n_weights])), (n_kind, .inl (g 0, 12, .inl n_fkind)), (oc_reach, .inl (g 0, 12, .inl orf)), (oc_ringBits, .inl (g 0, 12, .inl f_110622))] H := hP
            have hD : va_D A [(oc, .inr (3, [.ref n, .ref sv, .ref oc_plan, .ref ow, .ref ol, .ref oc_reach, .ref oc_ringBits, .int x_110601, .int v_110623, .int ose])), (n, .inr (2, [.int n_nodes, .ref n_kind, .ref n_pay, .ref n_name, .ref n_ways, .ref n_held, .ref n_targets, .ref n_weights])), (n_kind, .inl (g 0, 12, .inl n_fkind)), (oc_reach, .inl (g 0, 12, .inl orf)), (oc_ringBits, .inl (g 0, 12, .inl f_110622))] := hD
            refine lv_aload_n hx hb dX3_findRings_72 rfl (lv_at hl 1 rfl) ?_
            refine lv_dup hx hb dX3_findRings_73 rfl ?_
            refine va_get (D := D) (ci := 3) (v := .int x_110601) (C := RX3) (T := TX3) (N := 10) hx hb hts inlX3 hown hK hP 0 rfl rfl 7 (by decide) (hts (Cond.fieldLink RX3 87 "ChanceRings$Outcome" "ringCount" "I") qw_645) (fun _ h9 => h9) rfl dX3_findRings_74 ?_
            refine lv_iconst (v := 1) hx hb dX3_findRings_77 (by decide) ?_
            refine lv_iadd hx hb dX3_findRings_78 ?_
            refine lv_topi (fun v_110624 v_110624_e => ?_)
            have h_v_110624 : 1 ≤ (v_110624 : Int32).toInt ∧ (v_110624 : Int32).toInt ≤ 12 := by rw [v_110624_e]; exact tr_add h_110610 (⟨by decide, by decide⟩ : 1 ≤ (1 : Int32).toInt ∧ (1 : Int32).toInt ≤ 1) (by decide) (by decide) (by decide) (by decide)
            have q_v_110624 : v_110624.toInt = x_110601.toInt + 1 := by rw [v_110624_e]; exact tr_addE h_110610 (⟨by decide, by decide⟩ : 1 ≤ (1 : Int32).toInt ∧ (1 : Int32).toInt ≤ 1) (by decide) (by decide)
            refine va_put (D := D) (ci := 3) (v := .int v_110624) (ty := .int) (C := RX3) (T := TX3) (N := 10) hx hb hts inlX3 tyX3 tyX3_ok nmX3 hown hK hP hD hS 0 rfl rfl 7 (by decide) (hts (Cond.fieldLink RX3 87 "ChanceRings$Outcome" "ringCount" "I") qw_645) (fun _ h9 => h9) rfl (by decide +kernel) rfl rfl (Nat.le_of_ble_eq_true rfl) dX3_findRings_79 (fun H locs hP hD hS => ?_)
            have hP : va_P D vwCl [(oc, .inr (3, [.ref n, .ref sv, .ref oc_plan, .ref ow, .ref ol, .ref oc_reach, .ref oc_ringBits, .int v_110624, .int v_110623, .int ose])), (n, .inr (2, [.int n_nodes, .ref n_kind, .ref n_pay, .ref n_name, .ref n_ways, .ref n_held, .ref n_targets, .ref n_weights])), (n_kind, .inl (g 0, 12, .inl n_fkind)), (oc_reach, .inl (g 0, 12, .inl orf)), (oc_ringBits, .inl (g 0, 12, .inl f_110622))] H := hP
            have hD : va_D A [(oc, .inr (3, [.ref n, .ref sv, .ref oc_plan, .ref ow, .ref ol, .ref oc_reach, .ref oc_ringBits, .int v_110624, .int v_110623, .int ose])), (n, .inr (2, [.int n_nodes, .ref n_kind, .ref n_pay, .ref n_name, .ref n_ways, .ref n_held, .ref n_targets, .ref n_weights])), (n_kind, .inl (g 0, 12, .inl n_fkind)), (oc_reach, .inl (g 0, 12, .inl orf)), (oc_ringBits, .inl (g 0, 12, .inl f_110622))] := hD
            obtain ⟨v_110625, v_110625_e⟩ : ∃ y : Int32, y = x_110602 + Int32.ofInt 1 := ⟨_, rfl⟩
            have h_v_110625 : 1 ≤ (v_110625 : Int32).toInt ∧ (v_110625 : Int32).toInt ≤ 12 := by rw [v_110625_e]; exact tr_add h_110607 (⟨by decide, by decide⟩ : 1 ≤ (Int32.ofInt 1 : Int32).toInt ∧ (Int32.ofInt 1 : Int32).toInt ≤ 1) (by decide) (by decide) (by decide) (by decide)
            have q_v_110625 : v_110625.toInt = x_110602.toInt + 1 := by rw [v_110625_e]; exact tr_addE h_110607 (⟨by decide, by decide⟩ : 1 ≤ (Int32.ofInt 1 : Int32).toInt ∧ (Int32.ofInt 1 : Int32).toInt ≤ 1) (by decide) (by decide)
            refine lv_iinc (v := v_110625) (lv' := [(1, .int v_110625), (0, .ref oc)]) hx hb dX3_findRings_82 hl (k := 0) rfl v_110625_e.symm (by decide) rfl (fun ls hl => ?_)
            refine lv_goto (tgt := 12) hx hb dX3_findRings_85 (by decide) ?_
            exact ih_110605 v_110624 v_110625 v_110623 f_110622 H _ ls (tr_w h_v_110624 (by decide) (by decide)) (tr_w h_v_110625 (by decide) (by decide)) (by omega) (by omega) (hP.sub [0, 1, 2, 3, 4] rfl) (hD.sub [0, 1, 2, 3, 4] (by decide) rfl) hS (lv_sub hl [0, 1] rfl)
  exact lp_110605 13 0 0 0 obf H _ ls (⟨by decide, by decide⟩ : 0 ≤ (0 : Int32).toInt ∧ (0 : Int32).toInt ≤ 12) (⟨by decide, by decide⟩ : 0 ≤ (0 : Int32).toInt ∧ (0 : Int32).toInt ≤ 12) (by decide) (by decide) (hP.sub [0, 1, 2, 3, 4] rfl) (hD.sub [0, 1, 2, 3, 4] (by decide) rfl) hS (lv_sub hl [0, 1] rfl)
set_option maxHeartbeats 4000000 in
set_option maxRecDepth 100000 in
theorem c_X3_worthless (l : Launch) (D : va_G) (g : Nat → ClassId) (oc : Nat) (n : Nat) (sv : Nat) (oc_plan : Nat) (ow : Nat) (ol : Nat) (oc_reach : Nat) (oc_ringBits : Nat) (orc : Int32) (orn : Int32) (ose : Int32) (n_nodes : Int32) (n_kind : Nat) (n_pay : Nat) (n_name : Nat) (n_ways : Nat) (n_held : Nat) (n_targets : Nat) (n_weights : Nat) (ow_part : Nat) (oww : Int64) (owp : Nat → Int64) (h_orc : 0 ≤ (orc : Int32).toInt ∧ (orc : Int32).toInt ≤ 12) (h_ose : 0 ≤ (ose : Int32).toInt ∧ (ose : Int32).toInt ≤ 1) (h_n_nodes : 0 ≤ (n_nodes : Int32).toInt ∧ (n_nodes : Int32).toInt ≤ 12) : Met l yX3_worthless (.code yX3_worthless cX3_worthless 3 (some .int) :: wsL_law) ({ frames := 0, cells := 0, slots := 0, locals := 0 }) (va_Pc [.ref oc] (fun U => va_P D vwCl [(oc, .inr (3, [.ref n, .ref sv, .ref oc_plan, .ref ow, .ref ol, .ref oc_reach, .ref oc_ringBits, .int orc, .int orn, .int ose])), (n, .inr (2, [.int n_nodes, .ref n_kind, .ref n_pay, .ref n_name, .ref n_ways, .ref n_held, .ref n_targets, .ref n_weights])), (ow, .inr (10, [.ref ow_part, .long oww])), (ow_part, .inl (g 1, 12, .inr (.inl owp)))] U.heap ∧ va_K D vwCl (TY g) U)) (vp_Si (fun r => True)) 0 0 (fun _ => False) := by
  refine Met.ofW (cc := cX3_worthless) (maxL := 3) (ret := (some .int)) (by decide) rfl ?_
  intro p e s m args below meth c s₁ B hml hv
  obtain ⟨ha, hP, hK⟩ := hv
  have hx := B.exec
  have hb := B.bytes
  have hr := B.returns
  have hts0 := atoms_spec (ws := (.code yX3_worthless cX3_worthless 3 (some .int) :: wsL_law)) B.pre
  have hts : ∀ w ∈ wsL_law, w.before args s = true := fun w h => hts0 w (List.mem_cons_of_mem _ h)
  have hown : s.vm.findClass RX3 = some m.cls := findClass_of_methodNamed B.named
  have hlocks := B.notSynchronized
  have hP : va_P D vwCl [(oc, .inr (3, [.ref n, .ref sv, .ref oc_plan, .ref ow, .ref ol, .ref oc_reach, .ref oc_ringBits, .int orc, .int orn, .int ose])), (n, .inr (2, [.int n_nodes, .ref n_kind, .ref n_pay, .ref n_name, .ref n_ways, .ref n_held, .ref n_targets, .ref n_weights])), (ow, .inr (10, [.ref ow_part, .long oww])), (ow_part, .inl (g 1, 12, .inr (.inl owp)))] s.heap := hP
  refine W.eq (g2 := entryFrame m ([.ref oc] : List Value).toArray 3) (by rw [ha]) ?_
  have hl := lv_entry ([.ref oc]) (n := 3) (Nat.le_of_ble_eq_true rfl)
  rw [lg_entry_eq]
  generalize (lg_sl ([.ref oc]) ++ List.replicate (3 - (lg_sl ([.ref oc])).length) Slot.unset).toArray = ls at hl ⊢
  have hl : lv_has ls 3 [(0, .ref oc)] := hl
  refine lv_iconst (v := 0) hx hb dX3_worthless_0 (by decide) ?_
  refine lv_istore_n (lv' := [(1, .int 0), (0, .ref oc)]) hx hb dX3_worthless_1 rfl hl (by decide) rfl (fun ls hl => ?_)
  refine lv_iconst (v := 0) hx hb dX3_worthless_2 (by decide) ?_
  refine lv_istore_n (lv' := [(2, .int 0), (1, .int 0), (0, .ref oc)]) hx hb dX3_worthless_3 rfl hl (by decide) rfl (fun ls hl => ?_)
  have lp_110734 : ∀ (n_110734 : Nat) (x_110732 : Int32) (x_110733 : Int32) (ls : Array Slot), (0 ≤ (x_110732 : Int32).toInt ∧ (x_110732 : Int32).toInt ≤ 12) → (12 - x_110732.toInt < (n_110734 : Int)) → lv_has ls 3 [(2, .int x_110732), (1, .int x_110733), (0, .ref oc)] → W p l e (headSpec (.code yX3_worthless cX3_worthless 3 (some .int) :: wsL_law) ({ frames := 0, cells := 0, slots := 0, locals := 0 })).room s m args below meth c s.heap [] 0 0 (MQ below (vp_Si (fun r => True)) args s 0 0 (fun _ => False)) (F0 m 4 ls []) := by
    intro n_110734
    induction n_110734 with
    | zero =>
      intro x_110732 x_110733 ls h_x_110732 hm_110734 hl
      exfalso; omega
    | succ n_110734 ih_110734 =>
      intro x_110732 x_110733 ls h_x_110732 hm_110734 hl
      refine lv_iload_n hx hb dX3_worthless_4 rfl (lv_at hl 0 rfl) ?_
      refine lv_aload_n hx hb dX3_worthless_5 rfl (lv_at hl 2 rfl) ?_
      refine va_get (D := D) (ci := 3) (v := .ref n) (C := RX3) (T := TX3) (N := 10) hx hb hts inlX3 hown hK hP 0 rfl rfl 0 (by decide) (hts (Cond.fieldLink RX3 31 "ChanceRings$Outcome" "net" "LChanceRings$Net;") qw_636) (fun _ h9 => h9) rfl dX3_worthless_6 ?_
      refine va_get (D := D) (ci := 2) (v := .int n_nodes) (C := RX2) (T := TX2) (N := 8) hx hb hts inlX2 hown hK hP 1 rfl rfl 0 (by decide) (hts (Cond.fieldLink RX3 63 "ChanceRings$Net" "nodes" "I") qw_637) (fun _ h9 => h9) rfl dX3_worthless_9 ?_
      refine lv_icmp_ge (tgt := 41) hx hb dX3_worthless_12 (by decide) (fun c_110735 => ?_) (fun c_110735 => ?_)
      · skip
        refine lv_iload_n hx hb dX3_worthless_41 rfl (lv_at hl 1 rfl) ?_
        exact W.iret (v := x_110733) hx hb hr (fun t ht hW => ⟨x_110733, rfl, trivial, ht⟩) (fun _ h => nomatch h) dX3_worthless_42
      · skip
        have c_110735_i := Int32.lt_iff_toInt_lt.mp (Int32.not_le.mp c_110735)
        have h_110736 : 0 ≤ (x_110732 : Int32).toInt ∧ (x_110732 : Int32).toInt ≤ 11 := by have q1 := h_x_110732; have q2 := h_n_nodes; omega
        have h_110737 : 1 ≤ (n_nodes : Int32).toInt ∧ (n_nodes : Int32).toInt ≤ 12 := by have q1 := h_x_110732; have q2 := h_n_nodes; omega
        refine lv_aload_n hx hb dX3_worthless_15 rfl (lv_at hl 2 rfl) ?_
        refine va_get (D := D) (ci := 3) (v := .ref ow) (C := RX3) (T := TX3) (N := 10) hx hb hts inlX3 hown hK hP 0 rfl rfl 3 (by decide) (hts (Cond.fieldLink RX3 18 "ChanceRings$Outcome" "worth" "LChanceRings$Values;") qw_652) (fun _ h9 => h9) rfl dX3_worthless_16 ?_
        refine va_get (D := D) (ci := 10) (v := .ref ow_part) (C := RX10) (T := TX10) (N := 2) hx hb hts inlX10 hown hK hP 2 rfl rfl 0 (by decide) (hts (Cond.fieldLink RX3 99 "ChanceRings$Values" "part" "[J") qw_653) (fun _ h9 => h9) rfl dX3_worthless_19 ?_
        refine lv_iload_n hx hb dX3_worthless_22 rfl (lv_at hl 0 rfl) ?_
        refine va_lald hx hb hK hP 3 1 rfl rfl (tr_in h_110736 (by decide) (by decide)) dX3_worthless_23 ?_
        refine lv_topl (fun w_110738 _ => ?_)
        refine lv_lconst (v := 0) hx hb dX3_worthless_24 (by decide) ?_
        refine W.lcmp hx hb dX3_worthless_25 ?_
        refine lv_topi (fun v_110739 v_110739_e => ?_)
        have h_v_110739 : (-1) ≤ (v_110739 : Int32).toInt ∧ (v_110739 : Int32).toInt ≤ 1 := by rw [v_110739_e]; exact tr_cmp _ _
        refine lv_if_ne (tgt := 35) hx hb dX3_worthless_26 (by decide) (fun c_110740 => ?_) (fun c_110740 => ?_)
        · skip
          have z_110741 : ¬ w_110738 = 0 := tr_cmp0 (by rw [← v_110739_e]; exact c_110740)
          obtain ⟨v_110743, v_110743_e⟩ : ∃ y : Int32, y = x_110732 + Int32.ofInt 1 := ⟨_, rfl⟩
          have h_v_110743 : 1 ≤ (v_110743 : Int32).toInt ∧ (v_110743 : Int32).toInt ≤ 12 := by rw [v_110743_e]; exact tr_add h_110736 (⟨by decide, by decide⟩ : 1 ≤ (Int32.ofInt 1 : Int32).toInt ∧ (Int32.ofInt 1 : Int32).toInt ≤ 1) (by decide) (by decide) (by decide) (by decide)
          have q_v_110743 : v_110743.toInt = x_110732.toInt + 1 := by rw [v_110743_e]; exact tr_addE h_110736 (⟨by decide, by decide⟩ : 1 ≤ (Int32.ofInt 1 : Int32).toInt ∧ (Int32.ofInt 1 : Int32).toInt ≤ 1) (by decide) (by decide)
          refine lv_iinc (v := v_110743) (lv' := [(2, .int v_110743), (1, .int x_110733), (0, .ref oc)]) hx hb dX3_worthless_35 hl (k := 0) rfl v_110743_e.symm (by decide) rfl (fun ls hl => ?_)
          refine lv_goto (tgt := 4) hx hb dX3_worthless_38 (by decide) ?_
          exact ih_110734 v_110743 x_110733 ls (tr_w h_v_110743 (by decide) (by decide)) (by omega) (lv_sub hl [0, 1, 2] rfl)
        · skip
          have c_110740_i := c_110740
          have c_110740_i : (v_110739 : Int32).toInt = (0 : Int32).toInt := congrArg Int32.toInt c_110740
          have h_110742 : 0 ≤ (v_110739 : Int32).toInt ∧ (v_110739 : Int32).toInt ≤ 0 := by have q1 := h_v_110739; have q2 := (⟨by decide, by decide⟩ : 0 ≤ (0 : Int32).toInt ∧ (0 : Int32).toInt ≤ 0); omega
          refine lv_iload_n hx hb dX3_worthless_29 rfl (lv_at hl 1 rfl) ?_
          refine lv_iconst (v := 1) hx hb dX3_worthless_30 (by decide) ?_
          refine lv_iload_n hx hb dX3_worthless_31 rfl (lv_at hl 0 rfl) ?_
          refine lv_ishl hx hb dX3_worthless_32 ?_
          refine lv_topi (fun v_110744 v_110744_e => ?_)
          refine lv_ior hx hb dX3_worthless_33 ?_
          refine lv_topi (fun v_110745 v_110745_e => ?_)
          refine lv_istore_n (lv' := [(1, .int v_110745), (2, .int x_110732), (0, .ref oc)]) hx hb dX3_worthless_34 rfl hl (by decide) rfl (fun ls hl => ?_)
          obtain ⟨v_110746, v_110746_e⟩ : ∃ y : Int32, y = x_110732 + Int32.ofInt 1 := ⟨_, rfl⟩
          have h_v_110746 : 1 ≤ (v_110746 : Int32).toInt ∧ (v_110746 : Int32).toInt ≤ 12 := by rw [v_110746_e]; exact tr_add h_110736 (⟨by decide, by decide⟩ : 1 ≤ (Int32.ofInt 1 : Int32).toInt ∧ (Int32.ofInt 1 : Int32).toInt ≤ 1) (by decide) (by decide) (by decide) (by decide)
          have q_v_110746 : v_110746.toInt = x_110732.toInt + 1 := by rw [v_110746_e]; exact tr_addE h_110736 (⟨by decide, by decide⟩ : 1 ≤ (Int32.ofInt 1 : Int32).toInt ∧ (Int32.ofInt 1 : Int32).toInt ≤ 1) (by decide) (by decide)
          refine lv_iinc (v := v_110746) (lv' := [(2, .int v_110746), (1, .int v_110745), (0, .ref oc)]) hx hb dX3_worthless_35 hl (k := 1) rfl v_110746_e.symm (by decide) rfl (fun ls hl => ?_)
          refine lv_goto (tgt := 4) hx hb dX3_worthless_38 (by decide) ?_
          exact ih_110734 v_110746 v_110745 ls (tr_w h_v_110746 (by decide) (by decide)) (by omega) (lv_sub hl [0, 1, 2] rfl)
  exact lp_110734 13 0 0 ls (⟨by decide, by decide⟩ : 0 ≤ (0 : Int32).toInt ∧ (0 : Int32).toInt ≤ 12) (by decide) (lv_sub hl [0, 1, 2] rfl)
set_option maxHeartbeats 4000000 in
set_option maxRecDepth 100000 in
theorem c_X3_countAhead (l : Launch) (D : va_G) (g : Nat → ClassId) (oc : Nat) (p0 : Int32) (n : Nat) (sv : Nat) (oc_plan : Nat) (ow : Nat) (ol : Nat) (oc_reach : Nat) (oc_ringBits : Nat) (orc : Int32) (orn : Int32) (ose : Int32) (n_nodes : Int32) (n_kind : Nat) (n_pay : Nat) (n_name : Nat) (n_ways : Nat) (n_held : Nat) (n_targets : Nat) (n_weights : Nat) (ow_part : Nat) (oww : Int64) (owp : Nat → Int64) (h_p0 : 0 ≤ (p0 : Int32).toInt ∧ (p0 : Int32).toInt ≤ 11) (h_orc : 0 ≤ (orc : Int32).toInt ∧ (orc : Int32).toInt ≤ 12) (h_ose : 0 ≤ (ose : Int32).toInt ∧ (ose : Int32).toInt ≤ 1) (h_n_nodes : 0 ≤ (n_nodes : Int32).toInt ∧ (n_nodes : Int32).toInt ≤ 12) : Met l yX3_countAhead (.code yX3_countAhead cX3_countAhead 4 (some .int) :: wsL_law) ({ frames := 0, cells := 0, slots := 0, locals := 0 }) (va_Pc [.ref oc, .int p0] (fun U => va_P D vwCl [(oc, .inr (3, [.ref n, .ref sv, .ref oc_plan, .ref ow, .ref ol, .ref oc_reach, .ref oc_ringBits, .int orc, .int orn, .int ose])), (n, .inr (2, [.int n_nodes, .ref n_kind, .ref n_pay, .ref n_name, .ref n_ways, .ref n_held, .ref n_targets, .ref n_weights])), (ow, .inr (10, [.ref ow_part, .long oww])), (ow_part, .inl (g 1, 12, .inr (.inl owp)))] U.heap ∧ va_K D vwCl (TY g) U)) (vp_Si (fun r => True)) 0 0 (fun _ => False) := by
  refine Met.ofW (cc := cX3_countAhead) (maxL := 4) (ret := (some .int)) (by decide) rfl ?_
  intro p e s m args below meth c s₁ B hml hv
  obtain ⟨ha, hP, hK⟩ := hv
  have hx := B.exec
  have hb := B.bytes
  have hr := B.returns
  have hts0 := atoms_spec (ws := (.code yX3_countAhead cX3_countAhead 4 (some .int) :: wsL_law)) B.pre
  have hts : ∀ w ∈ wsL_law, w.before args s = true := fun w h => hts0 w (List.mem_cons_of_mem _ h)
  have hown : s.vm.findClass RX3 = some m.cls := findClass_of_methodNamed B.named
  have hlocks := B.notSynchronized
  have hP : va_P D vwCl [(oc, .inr (3, [.ref n, .ref sv, .ref oc_plan, .ref ow, .ref ol, .ref oc_reach, .ref oc_ringBits, .int orc, .int orn, .int ose])), (n, .inr (2, [.int n_nodes, .ref n_kind, .ref n_pay, .ref n_name, .ref n_ways, .ref n_held, .ref n_targets, .ref n_weights])), (ow, .inr (10, [.ref ow_part, .long oww])), (ow_part, .inl (g 1, 12, .inr (.inl owp)))] s.heap := hP
  refine W.eq (g2 := entryFrame m ([.ref oc, .int p0] : List Value).toArray 4) (by rw [ha]) ?_
  have hl := lv_entry ([.ref oc, .int p0]) (n := 4) (Nat.le_of_ble_eq_true rfl)
  rw [lg_entry_eq]
  generalize (lg_sl ([.ref oc, .int p0]) ++ List.replicate (4 - (lg_sl ([.ref oc, .int p0])).length) Slot.unset).toArray = ls at hl ⊢
  have hl : lv_has ls 4 [(0, .ref oc), (1, .int p0)] := hl
  refine lv_iconst (v := 0) hx hb dX3_countAhead_0 (by decide) ?_
  refine lv_istore_n (lv' := [(2, .int 0), (0, .ref oc), (1, .int p0)]) hx hb dX3_countAhead_1 rfl hl (by decide) rfl (fun ls hl => ?_)
  refine lv_iconst (v := 0) hx hb dX3_countAhead_2 (by decide) ?_
  refine lv_istore_n (lv' := [(3, .int 0), (2, .int 0), (0, .ref oc), (1, .int p0)]) hx hb dX3_countAhead_3 rfl hl (by decide) rfl (fun ls hl => ?_)
  have lp_111316 : ∀ (n_111316 : Nat) (x_111314 : Int32) (x_111315 : Int32) (ls : Array Slot), (0 ≤ (x_111314 : Int32).toInt ∧ (x_111314 : Int32).toInt ≤ 12) → (12 - x_111314.toInt < (n_111316 : Int)) → lv_has ls 4 [(3, .int x_111314), (2, .int x_111315), (0, .ref oc), (1, .int p0)] → W p l e (headSpec (.code yX3_countAhead cX3_countAhead 4 (some .int) :: wsL_law) ({ frames := 0, cells := 0, slots := 0, locals := 0 })).room s m args below meth c s.heap [] 0 0 (MQ below (vp_Si (fun r => True)) args s 0 0 (fun _ => False)) (F0 m 4 ls []) := by
    intro n_111316
    induction n_111316 with
    | zero =>
      intro x_111314 x_111315 ls h_x_111314 hm_111316 hl
      exfalso; omega
    | succ n_111316 ih_111316 =>
      intro x_111314 x_111315 ls h_x_111314 hm_111316 hl
      refine lv_iload_n hx hb dX3_countAhead_4 rfl (lv_at hl 0 rfl) ?_
      refine lv_aload_n hx hb dX3_countAhead_5 rfl (lv_at hl 2 rfl) ?_
      refine va_get (D := D) (ci := 3) (v := .ref n) (C := RX3) (T := TX3) (N := 10) hx hb hts inlX3 hown hK hP 0 rfl rfl 0 (by decide) (hts (Cond.fieldLink RX3 31 "ChanceRings$Outcome" "net" "LChanceRings$Net;") qw_636) (fun _ h9 => h9) rfl dX3_countAhead_6 ?_
      refine va_get (D := D) (ci := 2) (v := .int n_nodes) (C := RX2) (T := TX2) (N := 8) hx hb hts inlX2 hown hK hP 1 rfl rfl 0 (by decide) (hts (Cond.fieldLink RX3 63 "ChanceRings$Net" "nodes" "I") qw_637) (fun _ h9 => h9) rfl dX3_countAhead_9 ?_
      refine lv_icmp_ge (tgt := 73) hx hb dX3_countAhead_12 (by decide) (fun c_111317 => ?_) (fun c_111317 => ?_)
      · skip
        refine lv_iload_n hx hb dX3_countAhead_73 rfl (lv_at hl 1 rfl) ?_
        exact W.iret (v := x_111315) hx hb hr (fun t ht hW => ⟨x_111315, rfl, trivial, ht⟩) (fun _ h => nomatch h) dX3_countAhead_74
      · skip
        have c_111317_i := Int32.lt_iff_toInt_lt.mp (Int32.not_le.mp c_111317)
        have h_111318 : 0 ≤ (x_111314 : Int32).toInt ∧ (x_111314 : Int32).toInt ≤ 11 := by have q1 := h_x_111314; have q2 := h_n_nodes; omega
        have h_111319 : 1 ≤ (n_nodes : Int32).toInt ∧ (n_nodes : Int32).toInt ≤ 12 := by have q1 := h_x_111314; have q2 := h_n_nodes; omega
        refine lv_aload_n hx hb dX3_countAhead_15 rfl (lv_at hl 2 rfl) ?_
        refine va_get (D := D) (ci := 3) (v := .ref ow) (C := RX3) (T := TX3) (N := 10) hx hb hts inlX3 hown hK hP 0 rfl rfl 3 (by decide) (hts (Cond.fieldLink RX3 18 "ChanceRings$Outcome" "worth" "LChanceRings$Values;") qw_652) (fun _ h9 => h9) rfl dX3_countAhead_16 ?_
        refine va_get (D := D) (ci := 10) (v := .ref ow_part) (C := RX10) (T := TX10) (N := 2) hx hb hts inlX10 hown hK hP 2 rfl rfl 0 (by decide) (hts (Cond.fieldLink RX3 99 "ChanceRings$Values" "part" "[J") qw_653) (fun _ h9 => h9) rfl dX3_countAhead_19 ?_
        refine lv_iload_n hx hb dX3_countAhead_22 rfl (lv_at hl 0 rfl) ?_
        refine va_lald hx hb hK hP 3 1 rfl rfl (tr_in h_111318 (by decide) (by decide)) dX3_countAhead_23 ?_
        refine lv_topl (fun w_111320 _ => ?_)
        refine lv_aload_n hx hb dX3_countAhead_24 rfl (lv_at hl 2 rfl) ?_
        refine va_get (D := D) (ci := 3) (v := .ref ow) (C := RX3) (T := TX3) (N := 10) hx hb hts inlX3 hown hK hP 0 rfl rfl 3 (by decide) (hts (Cond.fieldLink RX3 18 "ChanceRings$Outcome" "worth" "LChanceRings$Values;") qw_652) (fun _ h9 => h9) rfl dX3_countAhead_25 ?_
        refine va_get (D := D) (ci := 10) (v := .ref ow_part) (C := RX10) (T := TX10) (N := 2) hx hb hts inlX10 hown hK hP 2 rfl rfl 0 (by decide) (hts (Cond.fieldLink RX3 99 "ChanceRings$Values" "part" "[J") qw_653) (fun _ h9 => h9) rfl dX3_countAhead_28 ?_
        refine lv_iload_n hx hb dX3_countAhead_31 rfl (lv_at hl 3 rfl) ?_
        refine va_lald hx hb hK hP 3 1 rfl rfl (tr_in h_p0 (by decide) (by decide)) dX3_countAhead_32 ?_
        refine lv_topl (fun w_111321 _ => ?_)
        refine W.lcmp hx hb dX3_countAhead_33 ?_
        refine lv_topi (fun v_111322 v_111322_e => ?_)
        have h_v_111322 : (-1) ≤ (v_111322 : Int32).toInt ∧ (v_111322 : Int32).toInt ≤ 1 := by rw [v_111322_e]; exact tr_cmp _ _
        refine lv_if_gt (tgt := 64) hx hb dX3_countAhead_34 (by decide) (fun c_111323 => ?_) (fun c_111323 => ?_)
        · skip
          have c_111323_i := Int32.lt_iff_toInt_lt.mp c_111323
          have h_111324 : 1 ≤ (v_111322 : Int32).toInt ∧ (v_111322 : Int32).toInt ≤ 1 := by have q1 := h_v_111322; have q2 := (⟨by decide, by decide⟩ : 0 ≤ (0 : Int32).toInt ∧ (0 : Int32).toInt ≤ 0); omega
          obtain ⟨v_111326, v_111326_e⟩ : ∃ y : Int32, y = x_111315 + Int32.ofInt 1 := ⟨_, rfl⟩
          refine lv_iinc (v := v_111326) (lv' := [(2, .int v_111326), (3, .int x_111314), (0, .ref oc), (1, .int p0)]) hx hb dX3_countAhead_64 hl (k := 1) rfl v_111326_e.symm (by decide) rfl (fun ls hl => ?_)
          obtain ⟨v_111327, v_111327_e⟩ : ∃ y : Int32, y = x_111314 + Int32.ofInt 1 := ⟨_, rfl⟩
          have h_v_111327 : 1 ≤ (v_111327 : Int32).toInt ∧ (v_111327 : Int32).toInt ≤ 12 := by rw [v_111327_e]; exact tr_add h_111318 (⟨by decide, by decide⟩ : 1 ≤ (Int32.ofInt 1 : Int32).toInt ∧ (Int32.ofInt 1 : Int32).toInt ≤ 1) (by decide) (by decide) (by decide) (by decide)
          have q_v_111327 : v_111327.toInt = x_111314.toInt + 1 := by rw [v_111327_e]; exact tr_addE h_111318 (⟨by decide, by decide⟩ : 1 ≤ (Int32.ofInt 1 : Int32).toInt ∧ (Int32.ofInt 1 : Int32).toInt ≤ 1) (by decide) (by decide)
          refine lv_iinc (v := v_111327) (lv' := [(3, .int v_111327), (2, .int v_111326), (0, .ref oc), (1, .int p0)]) hx hb dX3_countAhead_67 hl (k := 1) rfl v_111327_e.symm (by decide) rfl (fun ls hl => ?_)
          refine lv_goto (tgt := 4) hx hb dX3_countAhead_70 (by decide) ?_
          exact ih_111316 v_111327 v_111326 ls (tr_w h_v_111327 (by decide) (by decide)) (by omega) (lv_sub hl [0, 1, 2, 3] rfl)
        · skip
          have c_111323_i := Int32.le_iff_toInt_le.mp (Int32.not_lt.mp c_111323)
          have h_111325 : (-1) ≤ (v_111322 : Int32).toInt ∧ (v_111322 : Int32).toInt ≤ 0 := by have q1 := h_v_111322; have q2 := (⟨by decide, by decide⟩ : 0 ≤ (0 : Int32).toInt ∧ (0 : Int32).toInt ≤ 0); omega
          refine lv_aload_n hx hb dX3_countAhead_37 rfl (lv_at hl 2 rfl) ?_
          refine va_get (D := D) (ci := 3) (v := .ref ow) (C := RX3) (T := TX3) (N := 10) hx hb hts inlX3 hown hK hP 0 rfl rfl 3 (by decide) (hts (Cond.fieldLink RX3 18 "ChanceRings$Outcome" "worth" "LChanceRings$Values;") qw_652) (fun _ h9 => h9) rfl dX3_countAhead_38 ?_
          refine va_get (D := D) (ci := 10) (v := .ref ow_part) (C := RX10) (T := TX10) (N := 2) hx hb hts inlX10 hown hK hP 2 rfl rfl 0 (by decide) (hts (Cond.fieldLink RX3 99 "ChanceRings$Values" "part" "[J") qw_653) (fun _ h9 => h9) rfl dX3_countAhead_41 ?_
          refine lv_iload_n hx hb dX3_countAhead_44 rfl (lv_at hl 0 rfl) ?_
          refine va_lald hx hb hK hP 3 1 rfl rfl (tr_in h_111318 (by decide) (by decide)) dX3_countAhead_45 ?_
          refine lv_topl (fun w_111328 _ => ?_)
          refine lv_aload_n hx hb dX3_countAhead_46 rfl (lv_at hl 2 rfl) ?_
          refine va_get (D := D) (ci := 3) (v := .ref ow) (C := RX3) (T := TX3) (N := 10) hx hb hts inlX3 hown hK hP 0 rfl rfl 3 (by decide) (hts (Cond.fieldLink RX3 18 "ChanceRings$Outcome" "worth" "LChanceRings$Values;") qw_652) (fun _ h9 => h9) rfl dX3_countAhead_47 ?_
          refine va_get (D := D) (ci := 10) (v := .ref ow_part) (C := RX10) (T := TX10) (N := 2) hx hb hts inlX10 hown hK hP 2 rfl rfl 0 (by decide) (hts (Cond.fieldLink RX3 99 "ChanceRings$Values" "part" "[J") qw_653) (fun _ h9 => h9) rfl dX3_countAhead_50 ?_
          refine lv_iload_n hx hb dX3_countAhead_53 rfl (lv_at hl 3 rfl) ?_
          refine va_lald hx hb hK hP 3 1 rfl rfl (tr_in h_p0 (by decide) (by decide)) dX3_countAhead_54 ?_
          refine lv_topl (fun w_111329 _ => ?_)
          refine W.lcmp hx hb dX3_countAhead_55 ?_
          refine lv_topi (fun v_111330 v_111330_e => ?_)
          have h_v_111330 : (-1) ≤ (v_111330 : Int32).toInt ∧ (v_111330 : Int32).toInt ≤ 1 := by rw [v_111330_e]; exact tr_cmp _ _
          refine lv_if_ne (tgt := 67) hx hb dX3_countAhead_56 (by decide) (fun c_111331 => ?_) (fun c_111331 => ?_)
          · skip
            obtain ⟨v_111333, v_111333_e⟩ : ∃ y : Int32, y = x_111314 + Int32.ofInt 1 := ⟨_, rfl⟩
            have h_v_111333 : 1 ≤ (v_111333 : Int32).toInt ∧ (v_111333 : Int32).toInt ≤ 12 := by rw [v_111333_e]; exact tr_add h_111318 (⟨by decide, by decide⟩ : 1 ≤ (Int32.ofInt 1 : Int32).toInt ∧ (Int32.ofInt 1 : Int32).toInt ≤ 1) (by decide) (by decide) (by decide) (by decide)
            have q_v_111333 : v_111333.toInt = x_111314.toInt + 1 := by rw [v_111333_e]; exact tr_addE h_111318 (⟨by decide, by decide⟩ : 1 ≤ (Int32.ofInt 1 : Int32).toInt ∧ (Int32.ofInt 1 : Int32).toInt ≤ 1) (by decide) (by decide)
            refine lv_iinc (v := v_111333) (lv' := [(3, .int v_111333), (2, .int x_111315), (0, .ref oc), (1, .int p0)]) hx hb dX3_countAhead_67 hl (k := 0) rfl v_111333_e.symm (by decide) rfl (fun ls hl => ?_)
            refine lv_goto (tgt := 4) hx hb dX3_countAhead_70 (by decide) ?_
            exact ih_111316 v_111333 x_111315 ls (tr_w h_v_111333 (by decide) (by decide)) (by omega) (lv_sub hl [0, 1, 2, 3] rfl)
          · skip
            have c_111331_i := c_111331
            have c_111331_i : (v_111330 : Int32).toInt = (0 : Int32).toInt := congrArg Int32.toInt c_111331
            have h_111332 : 0 ≤ (v_111330 : Int32).toInt ∧ (v_111330 : Int32).toInt ≤ 0 := by have q1 := h_v_111330; have q2 := (⟨by decide, by decide⟩ : 0 ≤ (0 : Int32).toInt ∧ (0 : Int32).toInt ≤ 0); omega
            refine lv_iload_n hx hb dX3_countAhead_59 rfl (lv_at hl 0 rfl) ?_
            refine lv_iload_n hx hb dX3_countAhead_60 rfl (lv_at hl 3 rfl) ?_
            refine lv_icmp_ge (tgt := 67) hx hb dX3_countAhead_61 (by decide) (fun c_111334 => ?_) (fun c_111334 => ?_)
            · skip
              obtain ⟨v_111337, v_111337_e⟩ : ∃ y : Int32, y = x_111314 + Int32.ofInt 1 := ⟨_, rfl⟩
              have h_v_111337 : 1 ≤ (v_111337 : Int32).toInt ∧ (v_111337 : Int32).toInt ≤ 12 := by rw [v_111337_e]; exact tr_add h_111318 (⟨by decide, by decide⟩ : 1 ≤ (Int32.ofInt 1 : Int32).toInt ∧ (Int32.ofInt 1 : Int32).toInt ≤ 1) (by decide) (by decide) (by decide) (by decide)
              have q_v_111337 : v_111337.toInt = x_111314.toInt + 1 := by rw [v_111337_e]; exact tr_addE h_111318 (⟨by decide, by decide⟩ : 1 ≤ (Int32.ofInt 1 : Int32).toInt ∧ (Int32.ofInt 1 : Int32).toInt ≤ 1) (by decide) (by decide)
              refine lv_iinc (v := v_111337) (lv' := [(3, .int v_111337), (2, .int x_111315), (0, .ref oc), (1, .int p0)]) hx hb dX3_countAhead_67 hl (k := 0) rfl v_111337_e.symm (by decide) rfl (fun ls hl => ?_)
              refine lv_goto (tgt := 4) hx hb dX3_countAhead_70 (by decide) ?_
              exact ih_111316 v_111337 x_111315 ls (tr_w h_v_111337 (by decide) (by decide)) (by omega) (lv_sub hl [0, 1, 2, 3] rfl)
            · skip
              have c_111334_i := Int32.lt_iff_toInt_lt.mp (Int32.not_le.mp c_111334)
              have h_111335 : 0 ≤ (x_111314 : Int32).toInt ∧ (x_111314 : Int32).toInt ≤ 10 := by have q1 := h_111318; have q2 := h_p0; omega
              have h_111336 : 1 ≤ (p0 : Int32).toInt ∧ (p0 : Int32).toInt ≤ 11 := by have q1 := h_111318; have q2 := h_p0; omega
              obtain ⟨v_111338, v_111338_e⟩ : ∃ y : Int32, y = x_111315 + Int32.ofInt 1 := ⟨_, rfl⟩
              refine lv_iinc (v := v_111338) (lv' := [(2, .int v_111338), (3, .int x_111314), (0, .ref oc), (1, .int p0)]) hx hb dX3_countAhead_64 hl (k := 1) rfl v_111338_e.symm (by decide) rfl (fun ls hl => ?_)
              obtain ⟨v_111339, v_111339_e⟩ : ∃ y : Int32, y = x_111314 + Int32.ofInt 1 := ⟨_, rfl⟩
              have h_v_111339 : 1 ≤ (v_111339 : Int32).toInt ∧ (v_111339 : Int32).toInt ≤ 11 := by rw [v_111339_e]; exact tr_add h_111335 (⟨by decide, by decide⟩ : 1 ≤ (Int32.ofInt 1 : Int32).toInt ∧ (Int32.ofInt 1 : Int32).toInt ≤ 1) (by decide) (by decide) (by decide) (by decide)
              have q_v_111339 : v_111339.toInt = x_111314.toInt + 1 := by rw [v_111339_e]; exact tr_addE h_111335 (⟨by decide, by decide⟩ : 1 ≤ (Int32.ofInt 1 : Int32).toInt ∧ (Int32.ofInt 1 : Int32).toInt ≤ 1) (by decide) (by decide)
              refine lv_iinc (v := v_111339) (lv' := [(3, .int v_111339), (2, .int v_111338), (0, .ref oc), (1, .int p0)]) hx hb dX3_countAhead_67 hl (k := 1) rfl v_111339_e.symm (by decide) rfl (fun ls hl => ?_)
              refine lv_goto (tgt := 4) hx hb dX3_countAhead_70 (by decide) ?_
              exact ih_111316 v_111339 v_111338 ls (tr_w h_v_111339 (by decide) (by decide)) (by omega) (lv_sub hl [0, 1, 2, 3] rfl)
  exact lp_111316 13 0 0 ls (⟨by decide, by decide⟩ : 0 ≤ (0 : Int32).toInt ∧ (0 : Int32).toInt ≤ 12) (by decide) (lv_sub hl [0, 1, 2, 3] rfl)
set_option maxHeartbeats 4000000 in
set_option maxRecDepth 100000 in
theorem c_X3_ranked (l : Launch) (D : va_G) (g : Nat → ClassId) (oc : Nat) (p0 : Int32) (n : Nat) (sv : Nat) (oc_plan : Nat) (ow : Nat) (ol : Nat) (oc_reach : Nat) (oc_ringBits : Nat) (orc : Int32) (orn : Int32) (ose : Int32) (n_nodes : Int32) (n_kind : Nat) (n_pay : Nat) (n_name : Nat) (n_ways : Nat) (n_held : Nat) (n_targets : Nat) (n_weights : Nat) (ow_part : Nat) (oww : Int64) (owp : Nat → Int64) (h_orc : 0 ≤ (orc : Int32).toInt ∧ (orc : Int32).toInt ≤ 12) (h_ose : 0 ≤ (ose : Int32).toInt ∧ (ose : Int32).toInt ≤ 1) (h_n_nodes : 0 ≤ (n_nodes : Int32).toInt ∧ (n_nodes : Int32).toInt ≤ 12) : Met l yX3_ranked (.code yX3_ranked cX3_ranked 3 (some .int) :: wsL_law) ({ frames := 1, cells := 0, slots := 0, locals := 23 }) (va_Pc [.ref oc, .int p0] (fun U => va_P D vwCl [(oc, .inr (3, [.ref n, .ref sv, .ref oc_plan, .ref ow, .ref ol, .ref oc_reach, .ref oc_ringBits, .int orc, .int orn, .int ose])), (n, .inr (2, [.int n_nodes, .ref n_kind, .ref n_pay, .ref n_name, .ref n_ways, .ref n_held, .ref n_targets, .ref n_weights])), (ow, .inr (10, [.ref ow_part, .long oww])), (ow_part, .inl (g 1, 12, .inr (.inl owp)))] U.heap ∧ va_K D vwCl (TY g) U)) (vp_Si (fun r => (-1) ≤ (r : Int32).toInt ∧ (r : Int32).toInt ≤ 11)) 0 0 (fun _ => False) := by
  refine Met.ofW (cc := cX3_ranked) (maxL := 3) (ret := (some .int)) (by decide) rfl ?_
  intro p e s m args below meth c s₁ B hml hv
  obtain ⟨ha, hP, hK⟩ := hv
  have hx := B.exec
  have hb := B.bytes
  have hr := B.returns
  have hts0 := atoms_spec (ws := (.code yX3_ranked cX3_ranked 3 (some .int) :: wsL_law)) B.pre
  have hts : ∀ w ∈ wsL_law, w.before args s = true := fun w h => hts0 w (List.mem_cons_of_mem _ h)
  have hown : s.vm.findClass RX3 = some m.cls := findClass_of_methodNamed B.named
  have hlocks := B.notSynchronized
  have hP : va_P D vwCl [(oc, .inr (3, [.ref n, .ref sv, .ref oc_plan, .ref ow, .ref ol, .ref oc_reach, .ref oc_ringBits, .int orc, .int orn, .int ose])), (n, .inr (2, [.int n_nodes, .ref n_kind, .ref n_pay, .ref n_name, .ref n_ways, .ref n_held, .ref n_targets, .ref n_weights])), (ow, .inr (10, [.ref ow_part, .long oww])), (ow_part, .inl (g 1, 12, .inr (.inl owp)))] s.heap := hP
  refine W.eq (g2 := entryFrame m ([.ref oc, .int p0] : List Value).toArray 3) (by rw [ha]) ?_
  have hl := lv_entry ([.ref oc, .int p0]) (n := 3) (Nat.le_of_ble_eq_true rfl)
  rw [lg_entry_eq]
  generalize (lg_sl ([.ref oc, .int p0]) ++ List.replicate (3 - (lg_sl ([.ref oc, .int p0])).length) Slot.unset).toArray = ls at hl ⊢
  have hl : lv_has ls 3 [(0, .ref oc), (1, .int p0)] := hl
  refine lv_iconst (v := 0) hx hb dX3_ranked_0 (by decide) ?_
  refine lv_istore_n (lv' := [(2, .int 0), (0, .ref oc), (1, .int p0)]) hx hb dX3_ranked_1 rfl hl (by decide) rfl (fun ls hl => ?_)
  have lp_111395 : ∀ (n_111395 : Nat) (x_111394 : Int32) (ls : Array Slot), (0 ≤ (x_111394 : Int32).toInt ∧ (x_111394 : Int32).toInt ≤ 12) → (12 - x_111394.toInt < (n_111395 : Int)) → lv_has ls 3 [(2, .int x_111394), (0, .ref oc), (1, .int p0)] → W p l e (headSpec (.code yX3_ranked cX3_ranked 3 (some .int) :: wsL_law) ({ frames := 1, cells := 0, slots := 0, locals := 23 })).room s m args below meth c s.heap [] 0 0 (MQ below (vp_Si (fun r => (-1) ≤ (r : Int32).toInt ∧ (r : Int32).toInt ≤ 11)) args s 0 0 (fun _ => False)) (F0 m 2 ls []) := by
    intro n_111395
    induction n_111395 with
    | zero =>
      intro x_111394 ls h_x_111394 hm_111395 hl
      exfalso; omega
    | succ n_111395 ih_111395 =>
      intro x_111394 ls h_x_111394 hm_111395 hl
      refine lv_iload_n hx hb dX3_ranked_2 rfl (lv_at hl 0 rfl) ?_
      refine lv_aload_n hx hb dX3_ranked_3 rfl (lv_at hl 1 rfl) ?_
      refine va_get (D := D) (ci := 3) (v := .ref n) (C := RX3) (T := TX3) (N := 10) hx hb hts inlX3 hown hK hP 0 rfl rfl 0 (by decide) (hts (Cond.fieldLink RX3 31 "ChanceRings$Outcome" "net" "LChanceRings$Net;") qw_636) (fun _ h9 => h9) rfl dX3_ranked_4 ?_
      refine va_get (D := D) (ci := 2) (v := .int n_nodes) (C := RX2) (T := TX2) (N := 8) hx hb hts inlX2 hown hK hP 1 rfl rfl 0 (by decide) (hts (Cond.fieldLink RX3 63 "ChanceRings$Net" "nodes" "I") qw_637) (fun _ h9 => h9) rfl dX3_ranked_7 ?_
      refine lv_icmp_ge (tgt := 30) hx hb dX3_ranked_10 (by decide) (fun c_111396 => ?_) (fun c_111396 => ?_)
      · skip
        refine lv_iconst (v := (-1)) hx hb dX3_ranked_30 (by decide) ?_
        exact W.iret (v := (-1)) hx hb hr (fun t ht hW => ⟨(-1), rfl, (⟨by decide, by decide⟩ : (-1) ≤ ((-1) : Int32).toInt ∧ ((-1) : Int32).toInt ≤ 11), ht⟩) (fun _ h => nomatch h) dX3_ranked_31
      · skip
        have c_111396_i := Int32.lt_iff_toInt_lt.mp (Int32.not_le.mp c_111396)
        have h_111397 : 0 ≤ (x_111394 : Int32).toInt ∧ (x_111394 : Int32).toInt ≤ 11 := by have q1 := h_x_111394; have q2 := h_n_nodes; omega
        have h_111398 : 1 ≤ (n_nodes : Int32).toInt ∧ (n_nodes : Int32).toInt ≤ 12 := by have q1 := h_x_111394; have q2 := h_n_nodes; omega
        refine lv_aload_n hx hb dX3_ranked_13 rfl (lv_at hl 1 rfl) ?_
        refine lv_iload_n hx hb dX3_ranked_14 rfl (lv_at hl 0 rfl) ?_
        have hPc := hP.sub (ws' := [(oc, .inr (3, [.ref n, .ref sv, .ref oc_plan, .ref ow, .ref ol, .ref oc_reach, .ref oc_ringBits, .int orc, .int orn, .int ose])), (n, .inr (2, [.int n_nodes, .ref n_kind, .ref n_pay, .ref n_name, .ref n_ways, .ref n_held, .ref n_targets, .ref n_weights])), (ow, .inr (10, [.ref ow_part, .long oww])), (ow_part, .inl (g 1, 12, .inr (.inl owp)))]) [0, 1, 2, 3] rfl
        refine vp_callSi (va_Run.run (va_runV (As := [.int x_111394]) (rest := []) ⟨hx, hb, hml, hown, hts⟩ (c_X3_countAhead l D g oc x_111394 n sv oc_plan ow ol oc_reach oc_ringBits orc orn ose n_nodes n_kind n_pay n_name n_ways n_held n_targets n_weights ow_part oww owp (tr_w h_111397 (by decide) (by decide)) (tr_w h_orc (by decide) (by decide)) (tr_w h_ose (by decide) (by decide)) (tr_w h_111398 (by decide) (by decide))) (cwV 1 hts (tz_gV qw_654 qw_655 qw_656 qw_649 qw_657) rfl rfl rfl (by decide +kernel) ⟨Nat.le_of_ble_eq_true rfl, Nat.le_of_ble_eq_true rfl⟩) ⟨tz_blS, va_recv hK hPc (ci := 3) (q0 := 0) rfl rfl, tz_preS hPc hK⟩ rfl rfl hl.1 rfl (lv_room (Nat.le_of_ble_eq_true rfl)) dX3_ranked_15 ⟨Nat.le_of_ble_eq_true rfl, Nat.le_of_ble_eq_true rfl⟩)) (fun r_111399 hw => ?_)
        refine lv_iload_n hx hb dX3_ranked_18 rfl (lv_at hl 2 rfl) ?_
        refine lv_icmp_ne (tgt := 24) hx hb dX3_ranked_19 (by decide) (fun c_111400 => ?_) (fun c_111400 => ?_)
        · skip
          obtain ⟨v_111401, v_111401_e⟩ : ∃ y : Int32, y = x_111394 + Int32.ofInt 1 := ⟨_, rfl⟩
          have h_v_111401 : 1 ≤ (v_111401 : Int32).toInt ∧ (v_111401 : Int32).toInt ≤ 12 := by rw [v_111401_e]; exact tr_add h_111397 (⟨by decide, by decide⟩ : 1 ≤ (Int32.ofInt 1 : Int32).toInt ∧ (Int32.ofInt 1 : Int32).toInt ≤ 1) (by decide) (by decide) (by decide) (by decide)
          have q_v_111401 : v_111401.toInt = x_111394.toInt + 1 := by rw [v_111401_e]; exact tr_addE h_111397 (⟨by decide, by decide⟩ : 1 ≤ (Int32.ofInt 1 : Int32).toInt ∧ (Int32.ofInt 1 : Int32).toInt ≤ 1) (by decide) (by decide)
          refine lv_iinc (v := v_111401) (lv' := [(2, .int v_111401), (0, .ref oc), (1, .int p0)]) hx hb dX3_ranked_24 hl (k := 0) rfl v_111401_e.symm (by decide) rfl (fun ls hl => ?_)
          refine lv_goto (tgt := 2) hx hb dX3_ranked_27 (by decide) ?_
          exact ih_111395 v_111401 ls (tr_w h_v_111401 (by decide) (by decide)) (by omega) (lv_sub hl [0, 1, 2] rfl)
        · skip
          refine lv_iload_n hx hb dX3_ranked_22 rfl (lv_at hl 0 rfl) ?_
          exact W.iret (v := x_111394) hx hb hr (fun t ht hW => ⟨x_111394, rfl, (tr_w h_111397 (by decide) (by decide)), ht⟩) (fun _ h => nomatch h) dX3_ranked_23
  exact lp_111395 13 0 ls (⟨by decide, by decide⟩ : 0 ≤ (0 : Int32).toInt ∧ (0 : Int32).toInt ≤ 12) (by decide) (lv_sub hl [0, 1, 2] rfl)
set_option maxHeartbeats 4000000 in
set_option maxRecDepth 100000 in
theorem c_X3_drawnWay (l : Launch) (D : va_G) (g : Nat → ClassId) (oc : Nat) (p0 : Int32) (p1 : Int32) (n : Nat) (sv : Nat) (oc_plan : Nat) (ow : Nat) (ol : Nat) (oc_reach : Nat) (oc_ringBits : Nat) (orc : Int32) (orn : Int32) (ose : Int32) (n_nodes : Int32) (n_kind : Nat) (n_pay : Nat) (n_name : Nat) (n_ways : Nat) (n_held : Nat) (n_targets : Nat) (n_weights : Nat) (n_fkind : Nat → Int32) (n_fways : Nat → Int32) (n_fweights : Nat → Int32) (h_p0 : 0 ≤ (p0 : Int32).toInt ∧ (p0 : Int32).toInt ≤ 11) (h_orc : 0 ≤ (orc : Int32).toInt ∧ (orc : Int32).toInt ≤ 12) (h_ose : 0 ≤ (ose : Int32).toInt ∧ (ose : Int32).toInt ≤ 1) (h_n_nodes : 0 ≤ (n_nodes : Int32).toInt ∧ (n_nodes : Int32).toInt ≤ 12) (h_n_fkind : ∀ j : Nat, 0 ≤ (n_fkind j).toInt ∧ (n_fkind j).toInt ≤ 3) (h_n_fways : ∀ j : Nat, 0 ≤ (n_fways j).toInt ∧ (n_fways j).toInt ≤ 3) : Met l yX3_drawnWay (.code yX3_drawnWay cX3_drawnWay 7 (some .int) :: wsL_law) ({ frames := 1, cells := 0, slots := 0, locals := 23 }) (va_Pc [.ref oc, .int p0, .int p1] (fun U => va_P D vwCl [(oc, .inr (3, [.ref n, .ref sv, .ref oc_plan, .ref ow, .ref ol, .ref oc_reach, .ref oc_ringBits, .int orc, .int orn, .int ose])), (n, .inr (2, [.int n_nodes, .ref n_kind, .ref n_pay, .ref n_name, .ref n_ways, .ref n_held, .ref n_targets, .ref n_weights])), (n_kind, .inl (g 0, 12, .inl n_fkind)), (n_ways, .inl (g 0, 12, .inl n_fways)), (n_weights, .inl (g 0, 36, .inl n_fweights))] U.heap ∧ va_K D vwCl (TY g) U)) (vp_Si (fun r => 0 ≤ (r : Int32).toInt ∧ (r : Int32).toInt ≤ 2)) 0 0 (fun _ => False) := by
  refine Met.ofW (cc := cX3_drawnWay) (maxL := 7) (ret := (some .int)) (by decide) rfl ?_
  intro p e s m args below meth c s₁ B hml hv
  obtain ⟨ha, hP, hK⟩ := hv
  have hx := B.exec
  have hb := B.bytes
  have hr := B.returns
  have hts0 := atoms_spec (ws := (.code yX3_drawnWay cX3_drawnWay 7 (some .int) :: wsL_law)) B.pre
  have hts : ∀ w ∈ wsL_law, w.before args s = true := fun w h => hts0 w (List.mem_cons_of_mem _ h)
  have hown : s.vm.findClass RX3 = some m.cls := findClass_of_methodNamed B.named
  have hlocks := B.notSynchronized
  have hP : va_P D vwCl [(oc, .inr (3, [.ref n, .ref sv, .ref oc_plan, .ref ow, .ref ol, .ref oc_reach, .ref oc_ringBits, .int orc, .int orn, .int ose])), (n, .inr (2, [.int n_nodes, .ref n_kind, .ref n_pay, .ref n_name, .ref n_ways, .ref n_held, .ref n_targets, .ref n_weights])), (n_kind, .inl (g 0, 12, .inl n_fkind)), (n_ways, .inl (g 0, 12, .inl n_fways)), (n_weights, .inl (g 0, 36, .inl n_fweights))] s.heap := hP
  refine W.eq (g2 := entryFrame m ([.ref oc, .int p0, .int p1] : List Value).toArray 7) (by rw [ha]) ?_
  have hl := lv_entry ([.ref oc, .int p0, .int p1]) (n := 7) (Nat.le_of_ble_eq_true rfl)
  rw [lg_entry_eq]
  generalize (lg_sl ([.ref oc, .int p0, .int p1]) ++ List.replicate (7 - (lg_sl ([.ref oc, .int p0, .int p1])).length) Slot.unset).toArray = ls at hl ⊢
  have hl : lv_has ls 7 [(0, .ref oc), (1, .int p0), (2, .int p1)] := hl
  refine lv_aload_n hx hb dX3_drawnWay_0 rfl (lv_at hl 0 rfl) ?_
  refine va_get (D := D) (ci := 3) (v := .ref n) (C := RX3) (T := TX3) (N := 10) hx hb hts inlX3 hown hK hP 0 rfl rfl 0 (by decide) (hts (Cond.fieldLink RX3 31 "ChanceRings$Outcome" "net" "LChanceRings$Net;") qw_636) (fun _ h9 => h9) rfl dX3_drawnWay_1 ?_
  refine lv_iload_n hx hb dX3_drawnWay_4 rfl (lv_at hl 1 rfl) ?_
  have hPc := hP.sub (ws' := [(n, .inr (2, [.int n_nodes, .ref n_kind, .ref n_pay, .ref n_name, .ref n_ways, .ref n_held, .ref n_targets, .ref n_weights])), (n_kind, .inl (g 0, 12, .inl n_fkind)), (n_ways, .inl (g 0, 12, .inl n_fways)), (n_weights, .inl (g 0, 36, .inl n_fweights))]) [1, 2, 3, 4] rfl
  refine vp_callSi (va_Run.run (va_runV (As := [.int p0]) (rest := []) ⟨hx, hb, hml, hown, hts⟩ (c_X2_together l D g n p0 n_nodes n_kind n_pay n_name n_ways n_held n_targets n_weights n_fkind n_fways n_fweights (tr_w h_p0 (by decide) (by decide)) (tr_w h_n_nodes (by decide) (by decide)) (tr_wa h_n_fkind (by decide) (by decide)) (tr_wa h_n_fways (by decide) (by decide))) (cwV 1 hts (tz_gV qw_658 qw_445 qw_446 qw_322 qw_447) rfl rfl rfl (by decide +kernel) ⟨Nat.le_of_ble_eq_true rfl, Nat.le_of_ble_eq_true rfl⟩) ⟨tz_blS, va_recv hK hPc (ci := 2) (q0 := 0) rfl rfl, tz_preS hPc hK⟩ rfl rfl hl.1 rfl (lv_room (Nat.le_of_ble_eq_true rfl)) dX3_drawnWay_5 ⟨Nat.le_of_ble_eq_true rfl, Nat.le_of_ble_eq_true rfl⟩)) (fun r_111402 hw => ?_)
  refine lv_istore_n (lv' := [(3, .int r_111402), (0, .ref oc), (1, .int p0), (2, .int p1)]) hx hb dX3_drawnWay_8 rfl hl (by decide) rfl (fun ls hl => ?_)
  refine lv_iload_n hx hb dX3_drawnWay_9 rfl (lv_at hl 0 rfl) ?_
  refine lv_if_ne (tgt := 17) hx hb dX3_drawnWay_10 (by decide) (fun c_111403 => ?_) (fun c_111403 => ?_)
  · skip
    refine lv_iload_n hx hb dX3_drawnWay_17 rfl (lv_at hl 3 rfl) ?_
    refine lv_iload_n hx hb dX3_drawnWay_18 rfl (lv_at hl 0 rfl) ?_
    refine lv_irem hx hb dX3_drawnWay_19 c_111403 ?_
    refine lv_topi (fun v_111405 v_111405_e => ?_)
    refine lv_istore (lv' := [(4, .int v_111405), (3, .int r_111402), (0, .ref oc), (1, .int p0), (2, .int p1)]) hx hb dX3_drawnWay_20 hl (by decide) rfl (fun ls hl => ?_)
    refine lv_iconst (v := 0) hx hb dX3_drawnWay_22 (by decide) ?_
    refine lv_istore (lv' := [(5, .int 0), (4, .int v_111405), (3, .int r_111402), (0, .ref oc), (1, .int p0), (2, .int p1)]) hx hb dX3_drawnWay_23 hl (by decide) rfl (fun ls hl => ?_)
    refine lv_iconst (v := 0) hx hb dX3_drawnWay_25 (by decide) ?_
    refine lv_istore (lv' := [(6, .int 0), (5, .int 0), (4, .int v_111405), (3, .int r_111402), (0, .ref oc), (1, .int p0), (2, .int p1)]) hx hb dX3_drawnWay_26 hl (by decide) rfl (fun ls hl => ?_)
    have lp_111445 : ∀ (n_111445 : Nat) (x_111443 : Int32) (x_111444 : Int32) (ls : Array Slot), (0 ≤ (x_111443 : Int32).toInt ∧ (x_111443 : Int32).toInt ≤ 3) → (3 - x_111443.toInt < (n_111445 : Int)) → lv_has ls 7 [(6, .int x_111443), (5, .int x_111444), (4, .int v_111405), (3, .int r_111402), (0, .ref oc), (1, .int p0), (2, .int p1)] → W p l e (headSpec (.code yX3_drawnWay cX3_drawnWay 7 (some .int) :: wsL_law) ({ frames := 1, cells := 0, slots := 0, locals := 23 })).room s m args below meth c s.heap [] 0 0 (MQ below (vp_Si (fun r => 0 ≤ (r : Int32).toInt ∧ (r : Int32).toInt ≤ 2)) args s 0 0 (fun _ => False)) (F0 m 28 ls []) := by
      intro n_111445
      induction n_111445 with
      | zero =>
        intro x_111443 x_111444 ls h_x_111443 hm_111445 hl
        exfalso; omega
      | succ n_111445 ih_111445 =>
        intro x_111443 x_111444 ls h_x_111443 hm_111445 hl
        refine lv_iload hx hb dX3_drawnWay_28 (lv_at hl 0 rfl) ?_
        refine lv_aload_n hx hb dX3_drawnWay_30 rfl (lv_at hl 4 rfl) ?_
        refine va_get (D := D) (ci := 3) (v := .ref n) (C := RX3) (T := TX3) (N := 10) hx hb hts inlX3 hown hK hP 0 rfl rfl 0 (by decide) (hts (Cond.fieldLink RX3 31 "ChanceRings$Outcome" "net" "LChanceRings$Net;") qw_636) (fun _ h9 => h9) rfl dX3_drawnWay_31 ?_
        refine va_get (D := D) (ci := 2) (v := .ref n_ways) (C := RX2) (T := TX2) (N := 8) hx hb hts inlX2 hown hK hP 1 rfl rfl 4 (by decide) (hts (Cond.fieldLink RX3 118 "ChanceRings$Net" "ways" "[I") qw_659) (fun _ h9 => h9) rfl dX3_drawnWay_34 ?_
        refine lv_iload_n hx hb dX3_drawnWay_37 rfl (lv_at hl 5 rfl) ?_
        refine va_iald hx hb hK hP 3 0 rfl rfl (tr_in h_p0 (by decide) (by decide)) dX3_drawnWay_38 ?_
        refine lv_topi (fun v_111446 v_111446_e => ?_)
        have h_v_111446 : 0 ≤ (v_111446 : Int32).toInt ∧ (v_111446 : Int32).toInt ≤ 3 := by rw [v_111446_e]; exact h_n_fways _
        refine lv_icmp_ge (tgt := 73) hx hb dX3_drawnWay_39 (by decide) (fun c_111447 => ?_) (fun c_111447 => ?_)
        · skip
          refine lv_iconst (v := 0) hx hb dX3_drawnWay_73 (by decide) ?_
          exact W.iret (v := 0) hx hb hr (fun t ht hW => ⟨0, rfl, (⟨by decide, by decide⟩ : 0 ≤ (0 : Int32).toInt ∧ (0 : Int32).toInt ≤ 2), ht⟩) (fun _ h => nomatch h) dX3_drawnWay_74
        · skip
          have c_111447_i := Int32.lt_iff_toInt_lt.mp (Int32.not_le.mp c_111447)
          have h_111448 : 0 ≤ (x_111443 : Int32).toInt ∧ (x_111443 : Int32).toInt ≤ 2 := by have q1 := h_x_111443; have q2 := h_v_111446; omega
          have h_111449 : 1 ≤ (v_111446 : Int32).toInt ∧ (v_111446 : Int32).toInt ≤ 3 := by have q1 := h_x_111443; have q2 := h_v_111446; omega
          refine lv_iload hx hb dX3_drawnWay_42 (lv_at hl 1 rfl) ?_
          refine lv_aload_n hx hb dX3_drawnWay_44 rfl (lv_at hl 4 rfl) ?_
          refine va_get (D := D) (ci := 3) (v := .ref n) (C := RX3) (T := TX3) (N := 10) hx hb hts inlX3 hown hK hP 0 rfl rfl 0 (by decide) (hts (Cond.fieldLink RX3 31 "ChanceRings$Outcome" "net" "LChanceRings$Net;") qw_636) (fun _ h9 => h9) rfl dX3_drawnWay_45 ?_
          refine lv_iload_n hx hb dX3_drawnWay_48 rfl (lv_at hl 5 rfl) ?_
          refine lv_iload hx hb dX3_drawnWay_49 (lv_at hl 0 rfl) ?_
          have hPc := hP.sub (ws' := [(n, .inr (2, [.int n_nodes, .ref n_kind, .ref n_pay, .ref n_name, .ref n_ways, .ref n_held, .ref n_targets, .ref n_weights])), (n_weights, .inl (g 0, 36, .inl n_fweights))]) [1, 4] rfl
          refine vp_callSi (va_Run.run (va_runV (As := [.int p0, .int x_111443]) (rest := [.int x_111444]) ⟨hx, hb, hml, hown, hts⟩ (c_X2_weight l D g n p0 x_111443 n_nodes n_kind n_pay n_name n_ways n_held n_targets n_weights n_fweights (tr_w h_p0 (by decide) (by decide)) (tr_w h_111448 (by decide) (by decide)) (tr_w h_n_nodes (by decide) (by decide))) (cwV 2 hts (tz_gV qw_660 qw_375 qw_376 qw_322 qw_377) rfl rfl rfl (by decide +kernel) ⟨Nat.le_of_ble_eq_true rfl, Nat.le_of_ble_eq_true rfl⟩) ⟨tz_blS, va_recv hK hPc (ci := 2) (q0 := 0) rfl rfl, tz_preS hPc hK⟩ rfl rfl hl.1 rfl (lv_room (Nat.le_of_ble_eq_true rfl)) dX3_drawnWay_51 ⟨Nat.le_of_ble_eq_true rfl, Nat.le_of_ble_eq_true rfl⟩)) (fun r_111450 hw => ?_)
          refine lv_iadd hx hb dX3_drawnWay_54 ?_
          refine lv_topi (fun v_111451 v_111451_e => ?_)
          refine lv_istore (lv' := [(5, .int v_111451), (6, .int x_111443), (4, .int v_111405), (3, .int r_111402), (0, .ref oc), (1, .int p0), (2, .int p1)]) hx hb dX3_drawnWay_55 hl (by decide) rfl (fun ls hl => ?_)
          refine lv_iload hx hb dX3_drawnWay_57 (lv_at hl 0 rfl) ?_
          refine lv_iload hx hb dX3_drawnWay_59 (lv_at hl 2 rfl) ?_
          refine lv_icmp_le (tgt := 67) hx hb dX3_drawnWay_61 (by decide) (fun c_111452 => ?_) (fun c_111452 => ?_)
          · skip
            obtain ⟨v_111453, v_111453_e⟩ : ∃ y : Int32, y = x_111443 + Int32.ofInt 1 := ⟨_, rfl⟩
            have h_v_111453 : 1 ≤ (v_111453 : Int32).toInt ∧ (v_111453 : Int32).toInt ≤ 3 := by rw [v_111453_e]; exact tr_add h_111448 (⟨by decide, by decide⟩ : 1 ≤ (Int32.ofInt 1 : Int32).toInt ∧ (Int32.ofInt 1 : Int32).toInt ≤ 1) (by decide) (by decide) (by decide) (by decide)
            have q_v_111453 : v_111453.toInt = x_111443.toInt + 1 := by rw [v_111453_e]; exact tr_addE h_111448 (⟨by decide, by decide⟩ : 1 ≤ (Int32.ofInt 1 : Int32).toInt ∧ (Int32.ofInt 1 : Int32).toInt ≤ 1) (by decide) (by decide)
            refine lv_iinc (v := v_111453) (lv' := [(6, .int v_111453), (5, .int v_111451), (4, .int v_111405), (3, .int r_111402), (0, .ref oc), (1, .int p0), (2, .int p1)]) hx hb dX3_drawnWay_67 hl (k := 1) rfl v_111453_e.symm (by decide) rfl (fun ls hl => ?_)
            refine lv_goto (tgt := 28) hx hb dX3_drawnWay_70 (by decide) ?_
            exact ih_111445 v_111453 v_111451 ls (tr_w h_v_111453 (by decide) (by decide)) (by omega) (lv_sub hl [0, 1, 2, 3, 4, 5, 6] rfl)
          · skip
            refine lv_iload hx hb dX3_drawnWay_64 (lv_at hl 1 rfl) ?_
            exact W.iret (v := x_111443) hx hb hr (fun t ht hW => ⟨x_111443, rfl, (tr_w h_111448 (by decide) (by decide)), ht⟩) (fun _ h => nomatch h) dX3_drawnWay_66
    exact lp_111445 4 0 0 ls (⟨by decide, by decide⟩ : 0 ≤ (0 : Int32).toInt ∧ (0 : Int32).toInt ≤ 3) (by decide) (lv_sub hl [0, 1, 2, 3, 4, 5, 6] rfl)
  · skip
    have h_111404 : 0 ≤ (r_111402 : Int32).toInt ∧ (r_111402 : Int32).toInt ≤ 0 := by rw [c_111403]; exact ⟨by decide, by decide⟩
    refine lv_iconst (v := 0) hx hb dX3_drawnWay_13 (by decide) ?_
    refine lv_goto (tgt := 20) hx hb dX3_drawnWay_14 (by decide) ?_
    refine lv_istore (lv' := [(4, .int 0), (3, .int r_111402), (0, .ref oc), (1, .int p0), (2, .int p1)]) hx hb dX3_drawnWay_20 hl (by decide) rfl (fun ls hl => ?_)
    refine lv_iconst (v := 0) hx hb dX3_drawnWay_22 (by decide) ?_
    refine lv_istore (lv' := [(5, .int 0), (4, .int 0), (3, .int r_111402), (0, .ref oc), (1, .int p0), (2, .int p1)]) hx hb dX3_drawnWay_23 hl (by decide) rfl (fun ls hl => ?_)
    refine lv_iconst (v := 0) hx hb dX3_drawnWay_25 (by decide) ?_
    refine lv_istore (lv' := [(6, .int 0), (5, .int 0), (4, .int 0), (3, .int r_111402), (0, .ref oc), (1, .int p0), (2, .int p1)]) hx hb dX3_drawnWay_26 hl (by decide) rfl (fun ls hl => ?_)
    have lp_111501 : ∀ (n_111501 : Nat) (x_111499 : Int32) (x_111500 : Int32) (ls : Array Slot), (0 ≤ (x_111499 : Int32).toInt ∧ (x_111499 : Int32).toInt ≤ 3) → ((-2147483648) ≤ (x_111500 : Int32).toInt ∧ (x_111500 : Int32).toInt ≤ 0) → (3 - x_111499.toInt < (n_111501 : Int)) → lv_has ls 7 [(6, .int x_111499), (5, .int x_111500), (4, .int 0), (3, .int r_111402), (0, .ref oc), (1, .int p0), (2, .int p1)] → W p l e (headSpec (.code yX3_drawnWay cX3_drawnWay 7 (some .int) :: wsL_law) ({ frames := 1, cells := 0, slots := 0, locals := 23 })).room s m args below meth c s.heap [] 0 0 (MQ below (vp_Si (fun r => 0 ≤ (r : Int32).toInt ∧ (r : Int32).toInt ≤ 2)) args s 0 0 (fun _ => False)) (F0 m 28 ls []) := by
      intro n_111501
      induction n_111501 with
      | zero =>
        intro x_111499 x_111500 ls h_x_111499 h_x_111500 hm_111501 hl
        exfalso; omega
      | succ n_111501 ih_111501 =>
        intro x_111499 x_111500 ls h_x_111499 h_x_111500 hm_111501 hl
        refine lv_iload hx hb dX3_drawnWay_28 (lv_at hl 0 rfl) ?_
        refine lv_aload_n hx hb dX3_drawnWay_30 rfl (lv_at hl 4 rfl) ?_
        refine va_get (D := D) (ci := 3) (v := .ref n) (C := RX3) (T := TX3) (N := 10) hx hb hts inlX3 hown hK hP 0 rfl rfl 0 (by decide) (hts (Cond.fieldLink RX3 31 "ChanceRings$Outcome" "net" "LChanceRings$Net;") qw_636) (fun _ h9 => h9) rfl dX3_drawnWay_31 ?_
        refine va_get (D := D) (ci := 2) (v := .ref n_ways) (C := RX2) (T := TX2) (N := 8) hx hb hts inlX2 hown hK hP 1 rfl rfl 4 (by decide) (hts (Cond.fieldLink RX3 118 "ChanceRings$Net" "ways" "[I") qw_659) (fun _ h9 => h9) rfl dX3_drawnWay_34 ?_
        refine lv_iload_n hx hb dX3_drawnWay_37 rfl (lv_at hl 5 rfl) ?_
        refine va_iald hx hb hK hP 3 0 rfl rfl (tr_in h_p0 (by decide) (by decide)) dX3_drawnWay_38 ?_
        refine lv_topi (fun v_111502 v_111502_e => ?_)
        have h_v_111502 : 0 ≤ (v_111502 : Int32).toInt ∧ (v_111502 : Int32).toInt ≤ 3 := by rw [v_111502_e]; exact h_n_fways _
        refine lv_icmp_ge (tgt := 73) hx hb dX3_drawnWay_39 (by decide) (fun c_111503 => ?_) (fun c_111503 => ?_)
        · skip
          refine lv_iconst (v := 0) hx hb dX3_drawnWay_73 (by decide) ?_
          exact W.iret (v := 0) hx hb hr (fun t ht hW => ⟨0, rfl, (⟨by decide, by decide⟩ : 0 ≤ (0 : Int32).toInt ∧ (0 : Int32).toInt ≤ 2), ht⟩) (fun _ h => nomatch h) dX3_drawnWay_74
        · skip
          have c_111503_i := Int32.lt_iff_toInt_lt.mp (Int32.not_le.mp c_111503)
          have h_111504 : 0 ≤ (x_111499 : Int32).toInt ∧ (x_111499 : Int32).toInt ≤ 2 := by have q1 := h_x_111499; have q2 := h_v_111502; omega
          have h_111505 : 1 ≤ (v_111502 : Int32).toInt ∧ (v_111502 : Int32).toInt ≤ 3 := by have q1 := h_x_111499; have q2 := h_v_111502; omega
          refine lv_iload hx hb dX3_drawnWay_42 (lv_at hl 1 rfl) ?_
          refine lv_aload_n hx hb dX3_drawnWay_44 rfl (lv_at hl 4 rfl) ?_
          refine va_get (D := D) (ci := 3) (v := .ref n) (C := RX3) (T := TX3) (N := 10) hx hb hts inlX3 hown hK hP 0 rfl rfl 0 (by decide) (hts (Cond.fieldLink RX3 31 "ChanceRings$Outcome" "net" "LChanceRings$Net;") qw_636) (fun _ h9 => h9) rfl dX3_drawnWay_45 ?_
          refine lv_iload_n hx hb dX3_drawnWay_48 rfl (lv_at hl 5 rfl) ?_
          refine lv_iload hx hb dX3_drawnWay_49 (lv_at hl 0 rfl) ?_
          have hPc := hP.sub (ws' := [(n, .inr (2, [.int n_nodes, .ref n_kind, .ref n_pay, .ref n_name, .ref n_ways, .ref n_held, .ref n_targets, .ref n_weights])), (n_weights, .inl (g 0, 36, .inl n_fweights))]) [1, 4] rfl
          refine vp_callSi (va_Run.run (va_runV (As := [.int p0, .int x_111499]) (rest := [.int x_111500]) ⟨hx, hb, hml, hown, hts⟩ (c_X2_weight l D g n p0 x_111499 n_nodes n_kind n_pay n_name n_ways n_held n_targets n_weights n_fweights (tr_w h_p0 (by decide) (by decide)) (tr_w h_111504 (by decide) (by decide)) (tr_w h_n_nodes (by decide) (by decide))) (cwV 2 hts (tz_gV qw_660 qw_375 qw_376 qw_322 qw_377) rfl rfl rfl (by decide +kernel) ⟨Nat.le_of_ble_eq_true rfl, Nat.le_of_ble_eq_true rfl⟩) ⟨tz_blS, va_recv hK hPc (ci := 2) (q0 := 0) rfl rfl, tz_preS hPc hK⟩ rfl rfl hl.1 rfl (lv_room (Nat.le_of_ble_eq_true rfl)) dX3_drawnWay_51 ⟨Nat.le_of_ble_eq_true rfl, Nat.le_of_ble_eq_true rfl⟩)) (fun r_111506 hw => ?_)
          refine lv_iadd hx hb dX3_drawnWay_54 ?_
          refine lv_topi (fun v_111507 v_111507_e => ?_)
          refine lv_istore (lv' := [(5, .int v_111507), (6, .int x_111499), (4, .int 0), (3, .int r_111402), (0, .ref oc), (1, .int p0), (2, .int p1)]) hx hb dX3_drawnWay_55 hl (by decide) rfl (fun ls hl => ?_)
          refine lv_iload hx hb dX3_drawnWay_57 (lv_at hl 0 rfl) ?_
          refine lv_iload hx hb dX3_drawnWay_59 (lv_at hl 2 rfl) ?_
          refine lv_icmp_le (tgt := 67) hx hb dX3_drawnWay_61 (by decide) (fun c_111508 => ?_) (fun c_111508 => ?_)
          · skip
            have c_111508_i := Int32.le_iff_toInt_le.mp c_111508
            have h_111509 : (-2147483648) ≤ (v_111507 : Int32).toInt ∧ (v_111507 : Int32).toInt ≤ 0 := by have q1 := tr_any v_111507; have q2 := (⟨by decide, by decide⟩ : 0 ≤ (0 : Int32).toInt ∧ (0 : Int32).toInt ≤ 0); omega
            obtain ⟨v_111511, v_111511_e⟩ : ∃ y : Int32, y = x_111499 + Int32.ofInt 1 := ⟨_, rfl⟩
            have h_v_111511 : 1 ≤ (v_111511 : Int32).toInt ∧ (v_111511 : Int32).toInt ≤ 3 := by rw [v_111511_e]; exact tr_add h_111504 (⟨by decide, by decide⟩ : 1 ≤ (Int32.ofInt 1 : Int32).toInt ∧ (Int32.ofInt 1 : Int32).toInt ≤ 1) (by decide) (by decide) (by decide) (by decide)
            have q_v_111511 : v_111511.toInt = x_111499.toInt + 1 := by rw [v_111511_e]; exact tr_addE h_111504 (⟨by decide, by decide⟩ : 1 ≤ (Int32.ofInt 1 : Int32).toInt ∧ (Int32.ofInt 1 : Int32).toInt ≤ 1) (by decide) (by decide)
            refine lv_iinc (v := v_111511) (lv' := [(6, .int v_111511), (5, .int v_111507), (4, .int 0), (3, .int r_111402), (0, .ref oc), (1, .int p0), (2, .int p1)]) hx hb dX3_drawnWay_67 hl (k := 1) rfl v_111511_e.symm (by decide) rfl (fun ls hl => ?_)
            refine lv_goto (tgt := 28) hx hb dX3_drawnWay_70 (by decide) ?_
            exact ih_111501 v_111511 v_111507 ls (tr_w h_v_111511 (by decide) (by decide)) (tr_w h_111509 (by decide) (by decide)) (by omega) (lv_sub hl [0, 1, 2, 3, 4, 5, 6] rfl)
          · skip
            have c_111508_i := Int32.lt_iff_toInt_lt.mp (Int32.not_le.mp c_111508)
            have h_111510 : 1 ≤ (v_111507 : Int32).toInt ∧ (v_111507 : Int32).toInt ≤ 2147483647 := by have q1 := tr_any v_111507; have q2 := (⟨by decide, by decide⟩ : 0 ≤ (0 : Int32).toInt ∧ (0 : Int32).toInt ≤ 0); omega
            refine lv_iload hx hb dX3_drawnWay_64 (lv_at hl 1 rfl) ?_
            exact W.iret (v := x_111499) hx hb hr (fun t ht hW => ⟨x_111499, rfl, (tr_w h_111504 (by decide) (by decide)), ht⟩) (fun _ h => nomatch h) dX3_drawnWay_66
    exact lp_111501 4 0 0 ls (⟨by decide, by decide⟩ : 0 ≤ (0 : Int32).toInt ∧ (0 : Int32).toInt ≤ 3) (⟨by decide, by decide⟩ : (-2147483648) ≤ (0 : Int32).toInt ∧ (0 : Int32).toInt ≤ 0) (by decide) (lv_sub hl [0, 1, 2, 3, 4, 5, 6] rfl)
set_option maxHeartbeats 4000000 in
set_option maxRecDepth 100000 in
theorem c_X3_walk (l : Launch) (D : va_G) (g : Nat → ClassId) (oc : Nat) (p0 : Int32) (p1 : Int32) (p2 : Int32) (n : Nat) (sv : Nat) (oc_plan : Nat) (ow : Nat) (ol : Nat) (oc_reach : Nat) (oc_ringBits : Nat) (orc : Int32) (orn : Int32) (ose : Int32) (n_nodes : Int32) (n_kind : Nat) (n_pay : Nat) (n_name : Nat) (n_ways : Nat) (n_held : Nat) (n_targets : Nat) (n_weights : Nat) (n_fkind : Nat → Int32) (n_fways : Nat → Int32) (n_ftargets : Nat → Int32) (n_fweights : Nat → Int32) (opf : Nat → Int32) (h_p0 : 0 ≤ (p0 : Int32).toInt ∧ (p0 : Int32).toInt ≤ 11) (h_p2 : 0 ≤ (p2 : Int32).toInt ∧ (p2 : Int32).toInt ≤ 60) (h_orc : 0 ≤ (orc : Int32).toInt ∧ (orc : Int32).toInt ≤ 12) (h_ose : 0 ≤ (ose : Int32).toInt ∧ (ose : Int32).toInt ≤ 1) (h_n_nodes : 0 ≤ (n_nodes : Int32).toInt ∧ (n_nodes : Int32).toInt ≤ 12) (h_n_fkind : ∀ j : Nat, 0 ≤ (n_fkind j).toInt ∧ (n_fkind j).toInt ≤ 3) (h_n_fways : ∀ j : Nat, 0 ≤ (n_fways j).toInt ∧ (n_fways j).toInt ≤ 3) (h_n_ftargets : ∀ j : Nat, 0 ≤ (n_ftargets j).toInt ∧ (n_ftargets j).toInt ≤ 11) (h_opf : ∀ j : Nat, 0 ≤ (opf j).toInt ∧ (opf j).toInt ≤ 2) : Met l yX3_walk (.code yX3_walk cX3_walk 8 (some .int) :: wsL_law) ({ frames := 2, cells := 0, slots := 0, locals := 49 }) (va_Pc [.ref oc, .int p0, .int p1, .int p2] (fun U => va_P D vwCl [(oc, .inr (3, [.ref n, .ref sv, .ref oc_plan, .ref ow, .ref ol, .ref oc_reach, .ref oc_ringBits, .int orc, .int orn, .int ose])), (n, .inr (2, [.int n_nodes, .ref n_kind, .ref n_pay, .ref n_name, .ref n_ways, .ref n_held, .ref n_targets, .ref n_weights])), (n_kind, .inl (g 0, 12, .inl n_fkind)), (n_ways, .inl (g 0, 12, .inl n_fways)), (n_targets, .inl (g 0, 36, .inl n_ftargets)), (n_weights, .inl (g 0, 36, .inl n_fweights)), (oc_plan, .inl (g 0, 12, .inl opf))] U.heap ∧ va_K D vwCl (TY g) U)) (vp_Si (fun r => 0 ≤ (r : Int32).toInt ∧ (r : Int32).toInt ≤ 11)) 0 0 (fun _ => False) := by
  refine Met.ofW (cc := cX3_walk) (maxL := 8) (ret := (some .int)) (by decide) rfl ?_
  intro p e s m args below meth c s₁ B hml hv
  obtain ⟨ha, hP, hK⟩ := hv
  have hx := B.exec
  have hb := B.bytes
  have hr := B.returns
  have hts0 := atoms_spec (ws := (.code yX3_walk cX3_walk 8 (some .int) :: wsL_law)) B.pre
  have hts : ∀ w ∈ wsL_law, w.before args s = true := fun w h => hts0 w (List.mem_cons_of_mem _ h)
  have hown : s.vm.findClass RX3 = some m.cls := findClass_of_methodNamed B.named
  have hlocks := B.notSynchronized
  have hP : va_P D vwCl [(oc, .inr (3, [.ref n, .ref sv, .ref oc_plan, .ref ow, .ref ol, .ref oc_reach, .ref oc_ringBits, .int orc, .int orn, .int ose])), (n, .inr (2, [.int n_nodes, .ref n_kind, .ref n_pay, .ref n_name, .ref n_ways, .ref n_held, .ref n_targets, .ref n_weights])), (n_kind, .inl (g 0, 12, .inl n_fkind)), (n_ways, .inl (g 0, 12, .inl n_fways)), (n_targets, .inl (g 0, 36, .inl n_ftargets)), (n_weights, .inl (g 0, 36, .inl n_fweights)), (oc_plan, .inl (g 0, 12, .inl opf))] s.heap := hP
  refine W.eq (g2 := entryFrame m ([.ref oc, .int p0, .int p1, .int p2] : List Value).toArray 8) (by rw [ha]) ?_
  have hl := lv_entry ([.ref oc, .int p0, .int p1, .int p2]) (n := 8) (Nat.le_of_ble_eq_true rfl)
  rw [lg_entry_eq]
  generalize (lg_sl ([.ref oc, .int p0, .int p1, .int p2]) ++ List.replicate (8 - (lg_sl ([.ref oc, .int p0, .int p1, .int p2])).length) Slot.unset).toArray = ls at hl ⊢
  have hl : lv_has ls 8 [(0, .ref oc), (1, .int p0), (2, .int p1), (3, .int p2)] := hl
  refine lv_iload_n hx hb dX3_walk_0 rfl (lv_at hl 1 rfl) ?_
  refine lv_istore (lv' := [(4, .int p0), (0, .ref oc), (1, .int p0), (2, .int p1), (3, .int p2)]) hx hb dX3_walk_1 hl (by decide) rfl (fun ls hl => ?_)
  refine lv_iload_n hx hb dX3_walk_3 rfl (lv_at hl 3 rfl) ?_
  refine lv_istore (lv' := [(5, .int p1), (4, .int p0), (0, .ref oc), (1, .int p0), (2, .int p1), (3, .int p2)]) hx hb dX3_walk_4 hl (by decide) rfl (fun ls hl => ?_)
  refine lv_iconst (v := 0) hx hb dX3_walk_6 (by decide) ?_
  refine lv_istore (lv' := [(6, .int 0), (5, .int p1), (4, .int p0), (0, .ref oc), (1, .int p0), (2, .int p1), (3, .int p2)]) hx hb dX3_walk_7 hl (by decide) rfl (fun ls hl => ?_)
  have lp_111810 : ∀ (n_111810 : Nat) (x_111807 : Int32) (x_111808 : Int32) (x_111809 : Int32) (ls : Array Slot), (0 ≤ (x_111807 : Int32).toInt ∧ (x_111807 : Int32).toInt ≤ 100) → (0 ≤ (x_111808 : Int32).toInt ∧ (x_111808 : Int32).toInt ≤ 11) → (100 - x_111807.toInt < (n_111810 : Int)) → lv_has ls 8 [(6, .int x_111807), (5, .int x_111809), (4, .int x_111808), (0, .ref oc), (1, .int p0), (2, .int p1), (3, .int p2)] → W p l e (headSpec (.code yX3_walk cX3_walk 8 (some .int) :: wsL_law) ({ frames := 2, cells := 0, slots := 0, locals := 49 })).room s m args below meth c s.heap [] 0 0 (MQ below (vp_Si (fun r => 0 ≤ (r : Int32).toInt ∧ (r : Int32).toInt ≤ 11)) args s 0 0 (fun _ => False)) (F0 m 9 ls []) := by
    intro n_111810
    induction n_111810 with
    | zero =>
      intro x_111807 x_111808 x_111809 ls h_x_111807 h_x_111808 hm_111810 hl
      exfalso; omega
    | succ n_111810 ih_111810 =>
      intro x_111807 x_111808 x_111809 ls h_x_111807 h_x_111808 hm_111810 hl
      refine lv_iload hx hb dX3_walk_9 (lv_at hl 0 rfl) ?_
      refine lv_iload_n hx hb dX3_walk_11 rfl (lv_at hl 6 rfl) ?_
      refine lv_icmp_ge (tgt := 94) hx hb dX3_walk_12 (by decide) (fun c_111811 => ?_) (fun c_111811 => ?_)
      · skip
        refine lv_iload hx hb dX3_walk_94 (lv_at hl 2 rfl) ?_
        exact W.iret (v := x_111808) hx hb hr (fun t ht hW => ⟨x_111808, rfl, (tr_w h_x_111808 (by decide) (by decide)), ht⟩) (fun _ h => nomatch h) dX3_walk_96
      · skip
        have c_111811_i := Int32.lt_iff_toInt_lt.mp (Int32.not_le.mp c_111811)
        have h_111812 : 0 ≤ (x_111807 : Int32).toInt ∧ (x_111807 : Int32).toInt ≤ 59 := by have q1 := h_x_111807; have q2 := h_p2; omega
        have h_111813 : 1 ≤ (p2 : Int32).toInt ∧ (p2 : Int32).toInt ≤ 60 := by have q1 := h_x_111807; have q2 := h_p2; omega
        refine lv_aload_n hx hb dX3_walk_15 rfl (lv_at hl 3 rfl) ?_
        refine va_get (D := D) (ci := 3) (v := .ref n) (C := RX3) (T := TX3) (N := 10) hx hb hts inlX3 hown hK hP 0 rfl rfl 0 (by decide) (hts (Cond.fieldLink RX3 31 "ChanceRings$Outcome" "net" "LChanceRings$Net;") qw_636) (fun _ h9 => h9) rfl dX3_walk_16 ?_
        refine va_get (D := D) (ci := 2) (v := .ref n_kind) (C := RX2) (T := TX2) (N := 8) hx hb hts inlX2 hown hK hP 1 rfl rfl 1 (by decide) (hts (Cond.fieldLink RX3 96 "ChanceRings$Net" "kind" "[I") qw_643) (fun _ h9 => h9) rfl dX3_walk_19 ?_
        refine lv_iload hx hb dX3_walk_22 (lv_at hl 2 rfl) ?_
        refine va_iald hx hb hK hP 2 0 rfl rfl (tr_in h_x_111808 (by decide) (by decide)) dX3_walk_24 ?_
        refine lv_topi (fun v_111814 v_111814_e => ?_)
        have h_v_111814 : 0 ≤ (v_111814 : Int32).toInt ∧ (v_111814 : Int32).toInt ≤ 3 := by rw [v_111814_e]; exact h_n_fkind _
        refine lv_if_eq (tgt := 94) hx hb dX3_walk_25 (by decide) (fun c_111815 => ?_) (fun c_111815 => ?_)
        · skip
          have c_111815_i := c_111815
          have c_111815_i : (v_111814 : Int32).toInt = (0 : Int32).toInt := congrArg Int32.toInt c_111815
          have h_111816 : 0 ≤ (v_111814 : Int32).toInt ∧ (v_111814 : Int32).toInt ≤ 0 := by have q1 := h_v_111814; have q2 := (⟨by decide, by decide⟩ : 0 ≤ (0 : Int32).toInt ∧ (0 : Int32).toInt ≤ 0); omega
          refine lv_iload hx hb dX3_walk_94 (lv_at hl 2 rfl) ?_
          exact W.iret (v := x_111808) hx hb hr (fun t ht hW => ⟨x_111808, rfl, (tr_w h_x_111808 (by decide) (by decide)), ht⟩) (fun _ h => nomatch h) dX3_walk_96
        · skip
          have c_111815_i := c_111815
          have c_111815_i : ¬ (v_111814 : Int32).toInt = (0 : Int32).toInt := (fun q => c_111815 (Int32.toInt_inj.mp q))
          have h_111817 : 1 ≤ (v_111814 : Int32).toInt ∧ (v_111814 : Int32).toInt ≤ 3 := by have q1 := h_v_111814; have q2 := (⟨by decide, by decide⟩ : 0 ≤ (0 : Int32).toInt ∧ (0 : Int32).toInt ≤ 0); omega
          refine lv_aload_n hx hb dX3_walk_28 rfl (lv_at hl 3 rfl) ?_
          refine va_get (D := D) (ci := 3) (v := .ref oc_plan) (C := RX3) (T := TX3) (N := 10) hx hb hts inlX3 hown hK hP 0 rfl rfl 2 (by decide) (hts (Cond.fieldLink RX3 9 "ChanceRings$Outcome" "plan" "[I") qw_641) (fun _ h9 => h9) rfl dX3_walk_29 ?_
          refine lv_iload hx hb dX3_walk_32 (lv_at hl 2 rfl) ?_
          refine va_iald hx hb hK hP 6 0 rfl rfl (tr_in h_x_111808 (by decide) (by decide)) dX3_walk_34 ?_
          refine lv_topi (fun v_111818 v_111818_e => ?_)
          have h_v_111818 : 0 ≤ (v_111818 : Int32).toInt ∧ (v_111818 : Int32).toInt ≤ 2 := by rw [v_111818_e]; exact h_opf _
          refine lv_istore (lv' := [(7, .int v_111818), (6, .int x_111807), (5, .int x_111809), (4, .int x_111808), (0, .ref oc), (1, .int p0), (2, .int p1), (3, .int p2)]) hx hb dX3_walk_35 hl (by decide) rfl (fun ls hl => ?_)
          refine lv_aload_n hx hb dX3_walk_37 rfl (lv_at hl 4 rfl) ?_
          refine va_get (D := D) (ci := 3) (v := .ref n) (C := RX3) (T := TX3) (N := 10) hx hb hts inlX3 hown hK hP 0 rfl rfl 0 (by decide) (hts (Cond.fieldLink RX3 31 "ChanceRings$Outcome" "net" "LChanceRings$Net;") qw_636) (fun _ h9 => h9) rfl dX3_walk_38 ?_
          refine va_get (D := D) (ci := 2) (v := .ref n_kind) (C := RX2) (T := TX2) (N := 8) hx hb hts inlX2 hown hK hP 1 rfl rfl 1 (by decide) (hts (Cond.fieldLink RX3 96 "ChanceRings$Net" "kind" "[I") qw_643) (fun _ h9 => h9) rfl dX3_walk_41 ?_
          refine lv_iload hx hb dX3_walk_44 (lv_at hl 3 rfl) ?_
          refine va_iald hx hb hK hP 2 0 rfl rfl (tr_in h_x_111808 (by decide) (by decide)) dX3_walk_46 ?_
          refine tz_i (y := v_111814) v_111814_e.symm ?_
          refine lv_iconst (v := 3) hx hb dX3_walk_47 (by decide) ?_
          refine lv_icmp_ne (tgt := 75) hx hb dX3_walk_48 (by decide) (fun c_111819 => ?_) (fun c_111819 => ?_)
          · skip
            have c_111819_i := c_111819
            have c_111819_i : ¬ (v_111814 : Int32).toInt = (3 : Int32).toInt := (fun q => c_111819 (Int32.toInt_inj.mp q))
            have h_111820 : 1 ≤ (v_111814 : Int32).toInt ∧ (v_111814 : Int32).toInt ≤ 2 := by have q1 := h_111817; have q2 := (⟨by decide, by decide⟩ : 3 ≤ (3 : Int32).toInt ∧ (3 : Int32).toInt ≤ 3); omega
            refine lv_aload_n hx hb dX3_walk_75 rfl (lv_at hl 4 rfl) ?_
            refine va_get (D := D) (ci := 3) (v := .ref n) (C := RX3) (T := TX3) (N := 10) hx hb hts inlX3 hown hK hP 0 rfl rfl 0 (by decide) (hts (Cond.fieldLink RX3 31 "ChanceRings$Outcome" "net" "LChanceRings$Net;") qw_636) (fun _ h9 => h9) rfl dX3_walk_76 ?_
            refine lv_iload hx hb dX3_walk_79 (lv_at hl 3 rfl) ?_
            refine lv_iload hx hb dX3_walk_81 (lv_at hl 0 rfl) ?_
            have hPc := hP.sub (ws' := [(n, .inr (2, [.int n_nodes, .ref n_kind, .ref n_pay, .ref n_name, .ref n_ways, .ref n_held, .ref n_targets, .ref n_weights])), (n_targets, .inl (g 0, 36, .inl n_ftargets))]) [1, 4] rfl
            refine vp_callSi (va_Run.run (va_runV (As := [.int x_111808, .int v_111818]) (rest := []) ⟨hx, hb, hml, hown, hts⟩ (c_X2_target l D g n x_111808 v_111818 n_nodes n_kind n_pay n_name n_ways n_held n_targets n_weights n_ftargets (tr_w h_x_111808 (by decide) (by decide)) (tr_w h_v_111818 (by decide) (by decide)) (tr_w h_n_nodes (by decide) (by decide)) (tr_wa h_n_ftargets (by decide) (by decide))) (cwV 2 hts (tz_gV qw_661 qw_325 qw_326 qw_322 qw_327) rfl rfl rfl (by decide +kernel) ⟨Nat.le_of_ble_eq_true rfl, Nat.le_of_ble_eq_true rfl⟩) ⟨tz_blS, va_recv hK hPc (ci := 2) (q0 := 0) rfl rfl, tz_preS hPc hK⟩ rfl rfl hl.1 rfl (lv_room (Nat.le_of_ble_eq_true rfl)) dX3_walk_83 ⟨Nat.le_of_ble_eq_true rfl, Nat.le_of_ble_eq_true rfl⟩)) (fun r_111822 hw => ?_)
            have hw_111823 : 0 ≤ (r_111822 : Int32).toInt ∧ (r_111822 : Int32).toInt ≤ 11 := hw
            refine lv_istore (lv' := [(4, .int r_111822), (7, .int v_111818), (6, .int x_111807), (5, .int x_111809), (0, .ref oc), (1, .int p0), (2, .int p1), (3, .int p2)]) hx hb dX3_walk_86 hl (by decide) rfl (fun ls hl => ?_)
            obtain ⟨v_111824, v_111824_e⟩ : ∃ y : Int32, y = x_111807 + Int32.ofInt 1 := ⟨_, rfl⟩
            have h_v_111824 : 1 ≤ (v_111824 : Int32).toInt ∧ (v_111824 : Int32).toInt ≤ 60 := by rw [v_111824_e]; exact tr_add h_111812 (⟨by decide, by decide⟩ : 1 ≤ (Int32.ofInt 1 : Int32).toInt ∧ (Int32.ofInt 1 : Int32).toInt ≤ 1) (by decide) (by decide) (by decide) (by decide)
            have q_v_111824 : v_111824.toInt = x_111807.toInt + 1 := by rw [v_111824_e]; exact tr_addE h_111812 (⟨by decide, by decide⟩ : 1 ≤ (Int32.ofInt 1 : Int32).toInt ∧ (Int32.ofInt 1 : Int32).toInt ≤ 1) (by decide) (by decide)
            refine lv_iinc (v := v_111824) (lv' := [(6, .int v_111824), (4, .int r_111822), (7, .int v_111818), (5, .int x_111809), (0, .ref oc), (1, .int p0), (2, .int p1), (3, .int p2)]) hx hb dX3_walk_88 hl (k := 2) rfl v_111824_e.symm (by decide) rfl (fun ls hl => ?_)
            refine lv_goto (tgt := 9) hx hb dX3_walk_91 (by decide) ?_
            exact ih_111810 v_111824 r_111822 x_111809 ls (tr_w h_v_111824 (by decide) (by decide)) (tr_w hw_111823 (by decide) (by decide)) (by omega) (lv_sub hl [0, 3, 1, 4, 5, 6, 7] rfl)
          · skip
            have c_111819_i := c_111819
            have c_111819_i : (v_111814 : Int32).toInt = (3 : Int32).toInt := congrArg Int32.toInt c_111819
            have h_111821 : 3 ≤ (v_111814 : Int32).toInt ∧ (v_111814 : Int32).toInt ≤ 3 := by have q1 := h_111817; have q2 := (⟨by decide, by decide⟩ : 3 ≤ (3 : Int32).toInt ∧ (3 : Int32).toInt ≤ 3); omega
            refine lv_iload hx hb dX3_walk_51 (lv_at hl 2 rfl) ?_
            refine lv_ldc (v := 1103515245) hx hb hown (hts (Cond.constant RX3 107 (1103515245)) qw_662) dX3_walk_53 ?_
            refine lv_imul hx hb dX3_walk_55 ?_
            refine lv_topi (fun v_111825 v_111825_e => ?_)
            refine lv_sipush (v := 12345) hx hb dX3_walk_56 (by decide) ?_
            refine lv_iadd hx hb dX3_walk_59 ?_
            refine lv_topi (fun v_111826 v_111826_e => ?_)
            refine lv_istore (lv' := [(5, .int v_111826), (7, .int v_111818), (6, .int x_111807), (4, .int x_111808), (0, .ref oc), (1, .int p0), (2, .int p1), (3, .int p2)]) hx hb dX3_walk_60 hl (by decide) rfl (fun ls hl => ?_)
            refine lv_aload_n hx hb dX3_walk_62 rfl (lv_at hl 4 rfl) ?_
            refine lv_iload hx hb dX3_walk_63 (lv_at hl 3 rfl) ?_
            refine lv_iload hx hb dX3_walk_65 (lv_at hl 0 rfl) ?_
            refine lv_bipush (v := 8) hx hb dX3_walk_67 (by decide) ?_
            refine lv_iushr hx hb dX3_walk_69 rfl ?_
            refine lv_topi (fun v_111827 v_111827_e => ?_)
            have hPc := hP.sub (ws' := [(oc, .inr (3, [.ref n, .ref sv, .ref oc_plan, .ref ow, .ref ol, .ref oc_reach, .ref oc_ringBits, .int orc, .int orn, .int ose])), (n, .inr (2, [.int n_nodes, .ref n_kind, .ref n_pay, .ref n_name, .ref n_ways, .ref n_held, .ref n_targets, .ref n_weights])), (n_kind, .inl (g 0, 12, .inl n_fkind)), (n_ways, .inl (g 0, 12, .inl n_fways)), (n_weights, .inl (g 0, 36, .inl n_fweights))]) [0, 1, 2, 3, 5] rfl
            refine vp_callSi (va_Run.run (va_runV (As := [.int x_111808, .int v_111827]) (rest := []) ⟨hx, hb, hml, hown, hts⟩ (c_X3_drawnWay l D g oc x_111808 v_111827 n sv oc_plan ow ol oc_reach oc_ringBits orc orn ose n_nodes n_kind n_pay n_name n_ways n_held n_targets n_weights n_fkind n_fways n_fweights (tr_w h_x_111808 (by decide) (by decide)) (tr_w h_orc (by decide) (by decide)) (tr_w h_ose (by decide) (by decide)) (tr_w h_n_nodes (by decide) (by decide)) (tr_wa h_n_fkind (by decide) (by decide)) (tr_wa h_n_fways (by decide) (by decide))) (cwV 2 hts (tz_gV qw_663 qw_664 qw_665 qw_649 qw_666) rfl rfl rfl (by decide +kernel) ⟨Nat.le_of_ble_eq_true rfl, Nat.le_of_ble_eq_true rfl⟩) ⟨tz_blS, va_recv hK hPc (ci := 3) (q0 := 0) rfl rfl, tz_preS hPc hK⟩ rfl rfl hl.1 rfl (lv_room (Nat.le_of_ble_eq_true rfl)) dX3_walk_70 ⟨Nat.le_of_ble_eq_true rfl, Nat.le_of_ble_eq_true rfl⟩)) (fun r_111828 hw => ?_)
            have hw_111829 : 0 ≤ (r_111828 : Int32).toInt ∧ (r_111828 : Int32).toInt ≤ 2 := hw
            refine lv_istore (lv' := [(7, .int r_111828), (5, .int v_111826), (6, .int x_111807), (4, .int x_111808), (0, .ref oc), (1, .int p0), (2, .int p1), (3, .int p2)]) hx hb dX3_walk_73 hl (by decide) rfl (fun ls hl => ?_)
            refine lv_aload_n hx hb dX3_walk_75 rfl (lv_at hl 4 rfl) ?_
            refine va_get (D := D) (ci := 3) (v := .ref n) (C := RX3) (T := TX3) (N := 10) hx hb hts inlX3 hown hK hP 0 rfl rfl 0 (by decide) (hts (Cond.fieldLink RX3 31 "ChanceRings$Outcome" "net" "LChanceRings$Net;") qw_636) (fun _ h9 => h9) rfl dX3_walk_76 ?_
            refine lv_iload hx hb dX3_walk_79 (lv_at hl 3 rfl) ?_
            refine lv_iload hx hb dX3_walk_81 (lv_at hl 0 rfl) ?_
            have hPc := hP.sub (ws' := [(n, .inr (2, [.int n_nodes, .ref n_kind, .ref n_pay, .ref n_name, .ref n_ways, .ref n_held, .ref n_targets, .ref n_weights])), (n_targets, .inl (g 0, 36, .inl n_ftargets))]) [1, 4] rfl
            refine vp_callSi (va_Run.run (va_runV (As := [.int x_111808, .int r_111828]) (rest := []) ⟨hx, hb, hml, hown, hts⟩ (c_X2_target l D g n x_111808 r_111828 n_nodes n_kind n_pay n_name n_ways n_held n_targets n_weights n_ftargets (tr_w h_x_111808 (by decide) (by decide)) (tr_w hw_111829 (by decide) (by decide)) (tr_w h_n_nodes (by decide) (by decide)) (tr_wa h_n_ftargets (by decide) (by decide))) (cwV 2 hts (tz_gV qw_661 qw_325 qw_326 qw_322 qw_327) rfl rfl rfl (by decide +kernel) ⟨Nat.le_of_ble_eq_true rfl, Nat.le_of_ble_eq_true rfl⟩) ⟨tz_blS, va_recv hK hPc (ci := 2) (q0 := 0) rfl rfl, tz_preS hPc hK⟩ rfl rfl hl.1 rfl (lv_room (Nat.le_of_ble_eq_true rfl)) dX3_walk_83 ⟨Nat.le_of_ble_eq_true rfl, Nat.le_of_ble_eq_true rfl⟩)) (fun r_111830 hw => ?_)
            have hw_111831 : 0 ≤ (r_111830 : Int32).toInt ∧ (r_111830 : Int32).toInt ≤ 11 := hw
            refine lv_istore (lv' := [(4, .int r_111830), (7, .int r_111828), (5, .int v_111826), (6, .int x_111807), (0, .ref oc), (1, .int p0), (2, .int p1), (3, .int p2)]) hx hb dX3_walk_86 hl (by decide) rfl (fun ls hl => ?_)
            obtain ⟨v_111832, v_111832_e⟩ : ∃ y : Int32, y = x_111807 + Int32.ofInt 1 := ⟨_, rfl⟩
            have h_v_111832 : 1 ≤ (v_111832 : Int32).toInt ∧ (v_111832 : Int32).toInt ≤ 60 := by rw [v_111832_e]; exact tr_add h_111812 (⟨by decide, by decide⟩ : 1 ≤ (Int32.ofInt 1 : Int32).toInt ∧ (Int32.ofInt 1 : Int32).toInt ≤ 1) (by decide) (by decide) (by decide) (by decide)
            have q_v_111832 : v_111832.toInt = x_111807.toInt + 1 := by rw [v_111832_e]; exact tr_addE h_111812 (⟨by decide, by decide⟩ : 1 ≤ (Int32.ofInt 1 : Int32).toInt ∧ (Int32.ofInt 1 : Int32).toInt ≤ 1) (by decide) (by decide)
            refine lv_iinc (v := v_111832) (lv' := [(6, .int v_111832), (4, .int r_111830), (7, .int r_111828), (5, .int v_111826), (0, .ref oc), (1, .int p0), (2, .int p1), (3, .int p2)]) hx hb dX3_walk_88 hl (k := 3) rfl v_111832_e.symm (by decide) rfl (fun ls hl => ?_)
            refine lv_goto (tgt := 9) hx hb dX3_walk_91 (by decide) ?_
            exact ih_111810 v_111832 r_111830 v_111826 ls (tr_w h_v_111832 (by decide) (by decide)) (tr_w hw_111831 (by decide) (by decide)) (by omega) (lv_sub hl [0, 3, 1, 4, 5, 6, 7] rfl)
  exact lp_111810 101 0 p0 p1 ls (⟨by decide, by decide⟩ : 0 ≤ (0 : Int32).toInt ∧ (0 : Int32).toInt ≤ 100) (tr_w h_p0 (by decide) (by decide)) (by decide) (lv_sub hl [0, 1, 2, 3, 4, 5, 6] rfl)
set_option maxHeartbeats 4000000 in
set_option maxRecDepth 100000 in
theorem c_X3_settle (l : Launch) (D : va_G) (g : Nat → ClassId) (sz : Nat) (oc : Nat) (n : Nat) (sv : Nat) (oc_plan : Nat) (ow : Nat) (ol : Nat) (oc_reach : Nat) (oc_ringBits : Nat) (orc : Int32) (orn : Int32) (ose : Int32) (co : Nat) (sv_keep : Nat) (sv_scaled : Nat) (eq : Nat) (co_place : Nat) (n_nodes : Int32) (n_kind : Nat) (n_pay : Nat) (n_name : Nat) (n_ways : Nat) (n_held : Nat) (n_targets : Nat) (n_weights : Nat) (n_fkind : Nat → Int32) (n_fpay : Nat → Int32) (n_fways : Nat → Int32) (n_fheld : Nat → Int32) (n_ftargets : Nat → Int32) (n_fweights : Nat → Int32) (pcf : Nat → Int32) (eq_rows : Nat) (eq_right : Nat) (ew : Int64) (fr : Nat → Int64) (rr : Nat → Nat) (ct : Nat → Nat → Int64) (kpf : Nat → Int32) (opf : Nat → Int32) (orf : Nat → Int32) (obf : Nat → Int32) (ow_part : Nat) (oww : Int64) (owp : Nat → Int64) (ol_part : Nat) (olw : Int64) (olp : Nat → Int64) (h_orc : 0 ≤ (orc : Int32).toInt ∧ (orc : Int32).toInt ≤ 12) (h_ose : 0 ≤ (ose : Int32).toInt ∧ (ose : Int32).toInt ≤ 1) (h_n_nodes : 0 ≤ (n_nodes : Int32).toInt ∧ (n_nodes : Int32).toInt ≤ 12) (h_n_fkind : ∀ j : Nat, 0 ≤ (n_fkind j).toInt ∧ (n_fkind j).toInt ≤ 3) (h_n_fways : ∀ j : Nat, 0 ≤ (n_fways j).toInt ∧ (n_fways j).toInt ≤ 3) (h_n_fheld : ∀ j : Nat, (-1) ≤ (n_fheld j).toInt ∧ (n_fheld j).toInt ≤ 2) (h_n_ftargets : ∀ j : Nat, 0 ≤ (n_ftargets j).toInt ∧ (n_ftargets j).toInt ≤ 11) (h_pcf : ∀ j : Nat, (-1) ≤ (pcf j).toInt ∧ (pcf j).toInt ≤ 7) (h_opf : ∀ j : Nat, 0 ≤ (opf j).toInt ∧ (opf j).toInt ≤ 2) : Met l yX3_settle (.code yX3_settle cX3_settle 3 none :: wsL_law) ({ frames := 6, cells := 0, slots := 0, locals := 158 }) (va_Pc [.ref oc] (fun U => U.heap.size = sz ∧ va_P D vwCl ((oc, .inr (3, [.ref n, .ref sv, .ref oc_plan, .ref ow, .ref ol, .ref oc_reach, .ref oc_ringBits, .int orc, .int orn, .int ose])) :: (sv, .inr (6, [.ref n, .ref co, .ref sv_keep, .ref sv_scaled])) :: (co, .inr (0, [.ref n, .ref eq, .ref co_place])) :: (n, .inr (2, [.int n_nodes, .ref n_kind, .ref n_pay, .ref n_name, .ref n_ways, .ref n_held, .ref n_targets, .ref n_weights])) :: (n_kind, .inl (g 0, 12, .inl n_fkind)) :: (n_pay, .inl (g 0, 12, .inl n_fpay)) :: (n_ways, .inl (g 0, 12, .inl n_fways)) :: (n_held, .inl (g 0, 12, .inl n_fheld)) :: (n_targets, .inl (g 0, 36, .inl n_ftargets)) :: (n_weights, .inl (g 0, 36, .inl n_fweights)) :: (co_place, .inl (g 0, 12, .inl pcf)) :: (eq, .inr (1, [.ref eq_rows, .ref eq_right, .long ew])) :: (eq_right, .inl (g 1, 8, .inr (.inl fr))) :: (eq_rows, .inl (g 5, 8, .inr (.inr (.inr (.inr (fun i => if i < 8 then some (rr i) else none)))))) :: ((rr 0), .inl (g 1, 8, .inr (.inl (ct 0)))) :: ((rr 1), .inl (g 1, 8, .inr (.inl (ct 1)))) :: ((rr 2), .inl (g 1, 8, .inr (.inl (ct 2)))) :: ((rr 3), .inl (g 1, 8, .inr (.inl (ct 3)))) :: ((rr 4), .inl (g 1, 8, .inr (.inl (ct 4)))) :: ((rr 5), .inl (g 1, 8, .inr (.inl (ct 5)))) :: ((rr 6), .inl (g 1, 8, .inr (.inl (ct 6)))) :: ((rr 7), .inl (g 1, 8, .inr (.inl (ct 7)))) :: (sv_keep, .inl (g 0, 12, .inl kpf)) :: (oc_plan, .inl (g 0, 12, .inl opf)) :: (oc_reach, .inl (g 0, 12, .inl orf)) :: (oc_ringBits, .inl (g 0, 12, .inl obf)) :: (ow, .inr (10, [.ref ow_part, .long oww])) :: (ow_part, .inl (g 1, 12, .inr (.inl owp))) :: (ol, .inr (10, [.ref ol_part, .long olw])) :: (ol_part, .inl (g 1, 12, .inr (.inl olp))) :: []) U.heap ∧ va_K D vwCl (TY g) U ∧ va_D (fun _ => True) ((oc, .inr (3, [.ref n, .ref sv, .ref oc_plan, .ref ow, .ref ol, .ref oc_reach, .ref oc_ringBits, .int orc, .int orn, .int ose])) :: (sv, .inr (6, [.ref n, .ref co, .ref sv_keep, .ref sv_scaled])) :: (co, .inr (0, [.ref n, .ref eq, .ref co_place])) :: (n, .inr (2, [.int n_nodes, .ref n_kind, .ref n_pay, .ref n_name, .ref n_ways, .ref n_held, .ref n_targets, .ref n_weights])) :: (n_kind, .inl (g 0, 12, .inl n_fkind)) :: (n_pay, .inl (g 0, 12, .inl n_fpay)) :: (n_ways, .inl (g 0, 12, .inl n_fways)) :: (n_held, .inl (g 0, 12, .inl n_fheld)) :: (n_targets, .inl (g 0, 36, .inl n_ftargets)) :: (n_weights, .inl (g 0, 36, .inl n_fweights)) :: (co_place, .inl (g 0, 12, .inl pcf)) :: (eq, .inr (1, [.ref eq_rows, .ref eq_right, .long ew])) :: (eq_right, .inl (g 1, 8, .inr (.inl fr))) :: (eq_rows, .inl (g 5, 8, .inr (.inr (.inr (.inr (fun i => if i < 8 then some (rr i) else none)))))) :: ((rr 0), .inl (g 1, 8, .inr (.inl (ct 0)))) :: ((rr 1), .inl (g 1, 8, .inr (.inl (ct 1)))) :: ((rr 2), .inl (g 1, 8, .inr (.inl (ct 2)))) :: ((rr 3), .inl (g 1, 8, .inr (.inl (ct 3)))) :: ((rr 4), .inl (g 1, 8, .inr (.inl (ct 4)))) :: ((rr 5), .inl (g 1, 8, .inr (.inl (ct 5)))) :: ((rr 6), .inl (g 1, 8, .inr (.inl (ct 6)))) :: ((rr 7), .inl (g 1, 8, .inr (.inl (ct 7)))) :: (sv_keep, .inl (g 0, 12, .inl kpf)) :: (oc_plan, .inl (g 0, 12, .inl opf)) :: (oc_reach, .inl (g 0, 12, .inl orf)) :: (oc_ringBits, .inl (g 0, 12, .inl obf)) :: (ow, .inr (10, [.ref ow_part, .long oww])) :: (ow_part, .inl (g 1, 12, .inr (.inl owp))) :: (ol, .inr (10, [.ref ol_part, .long olw])) :: (ol_part, .inl (g 1, 12, .inr (.inl olp))) :: []))) (va_Qv (fun (_ : Unit) => True) (fun _ t => ∃ xrc : Int32, ∃ xrn : Int32, ∃ xse : Int32, ∃ opc : Nat → Int32, ∃ oew : Int64, ∃ ofr : Nat → Int64, ∃ okp : Nat → Int32, ∃ xpf : Nat → Int32, ∃ xrf : Nat → Int32, ∃ xbf : Nat → Int32, ∃ xow : Int64, ∃ xowp : Nat → Int64, ∃ xol : Int64, ∃ xolp : Nat → Int64, ∃ oct : Nat → Nat → Int64, (0 ≤ (xrc : Int32).toInt ∧ (xrc : Int32).toInt ≤ 12) ∧ (0 ≤ (xse : Int32).toInt ∧ (xse : Int32).toInt ≤ 1) ∧ (∀ j : Nat, (-1) ≤ (opc j).toInt ∧ (opc j).toInt ≤ 7) ∧ (∀ j : Nat, 0 ≤ (xpf j).toInt ∧ (xpf j).toInt ≤ 2) ∧ va_P D vwCl ((oc, .inr (3, [.ref n, .ref sv, .ref oc_plan, .ref ow, .ref ol, .ref oc_reach, .ref oc_ringBits, .int xrc, .int xrn, .int xse])) :: (sv, .inr (6, [.ref n, .ref co, .ref sv_keep, .ref sv_scaled])) :: (co, .inr (0, [.ref n, .ref eq, .ref co_place])) :: (n, .inr (2, [.int n_nodes, .ref n_kind, .ref n_pay, .ref n_name, .ref n_ways, .ref n_held, .ref n_targets, .ref n_weights])) :: (n_kind, .inl (g 0, 12, .inl n_fkind)) :: (n_pay, .inl (g 0, 12, .inl n_fpay)) :: (n_ways, .inl (g 0, 12, .inl n_fways)) :: (n_held, .inl (g 0, 12, .inl n_fheld)) :: (n_targets, .inl (g 0, 36, .inl n_ftargets)) :: (n_weights, .inl (g 0, 36, .inl n_fweights)) :: (co_place, .inl (g 0, 12, .inl opc)) :: (eq, .inr (1, [.ref eq_rows, .ref eq_right, .long oew])) :: (eq_right, .inl (g 1, 8, .inr (.inl ofr))) :: (eq_rows, .inl (g 5, 8, .inr (.inr (.inr (.inr (fun i => if i < 8 then some (rr i) else none)))))) :: ((rr 0), .inl (g 1, 8, .inr (.inl (oct 0)))) :: ((rr 1), .inl (g 1, 8, .inr (.inl (oct 1)))) :: ((rr 2), .inl (g 1, 8, .inr (.inl (oct 2)))) :: ((rr 3), .inl (g 1, 8, .inr (.inl (oct 3)))) :: ((rr 4), .inl (g 1, 8, .inr (.inl (oct 4)))) :: ((rr 5), .inl (g 1, 8, .inr (.inl (oct 5)))) :: ((rr 6), .inl (g 1, 8, .inr (.inl (oct 6)))) :: ((rr 7), .inl (g 1, 8, .inr (.inl (oct 7)))) :: (sv_keep, .inl (g 0, 12, .inl okp)) :: (oc_plan, .inl (g 0, 12, .inl xpf)) :: (oc_reach, .inl (g 0, 12, .inl xrf)) :: (oc_ringBits, .inl (g 0, 12, .inl xbf)) :: (ow, .inr (10, [.ref ow_part, .long xow])) :: (ow_part, .inl (g 1, 12, .inr (.inl xowp))) :: (ol, .inr (10, [.ref ol_part, .long xol])) :: (ol_part, .inl (g 1, 12, .inr (.inl xolp))) :: []) t.heap ∧ va_D (va_A ((oc, .inr (3, [.ref n, .ref sv, .ref oc_plan, .ref ow, .ref ol, .ref oc_reach, .ref oc_ringBits, .int orc, .int orn, .int ose])) :: (sv, .inr (6, [.ref n, .ref co, .ref sv_keep, .ref sv_scaled])) :: (co, .inr (0, [.ref n, .ref eq, .ref co_place])) :: (n, .inr (2, [.int n_nodes, .ref n_kind, .ref n_pay, .ref n_name, .ref n_ways, .ref n_held, .ref n_targets, .ref n_weights])) :: (n_kind, .inl (g 0, 12, .inl n_fkind)) :: (n_pay, .inl (g 0, 12, .inl n_fpay)) :: (n_ways, .inl (g 0, 12, .inl n_fways)) :: (n_held, .inl (g 0, 12, .inl n_fheld)) :: (n_targets, .inl (g 0, 36, .inl n_ftargets)) :: (n_weights, .inl (g 0, 36, .inl n_fweights)) :: (co_place, .inl (g 0, 12, .inl pcf)) :: (eq, .inr (1, [.ref eq_rows, .ref eq_right, .long ew])) :: (eq_right, .inl (g 1, 8, .inr (.inl fr))) :: (eq_rows, .inl (g 5, 8, .inr (.inr (.inr (.inr (fun i => if i < 8 then some (rr i) else none)))))) :: ((rr 0), .inl (g 1, 8, .inr (.inl (ct 0)))) :: ((rr 1), .inl (g 1, 8, .inr (.inl (ct 1)))) :: ((rr 2), .inl (g 1, 8, .inr (.inl (ct 2)))) :: ((rr 3), .inl (g 1, 8, .inr (.inl (ct 3)))) :: ((rr 4), .inl (g 1, 8, .inr (.inl (ct 4)))) :: ((rr 5), .inl (g 1, 8, .inr (.inl (ct 5)))) :: ((rr 6), .inl (g 1, 8, .inr (.inl (ct 6)))) :: ((rr 7), .inl (g 1, 8, .inr (.inl (ct 7)))) :: (sv_keep, .inl (g 0, 12, .inl kpf)) :: (oc_plan, .inl (g 0, 12, .inl opf)) :: (oc_reach, .inl (g 0, 12, .inl orf)) :: (oc_ringBits, .inl (g 0, 12, .inl obf)) :: (ow, .inr (10, [.ref ow_part, .long oww])) :: (ow_part, .inl (g 1, 12, .inr (.inl owp))) :: (ol, .inr (10, [.ref ol_part, .long olw])) :: (ol_part, .inl (g 1, 12, .inr (.inl olp))) :: []) sz) ((oc, .inr (3, [.ref n, .ref sv, .ref oc_plan, .ref ow, .ref ol, .ref oc_reach, .ref oc_ringBits, .int xrc, .int xrn, .int xse])) :: (sv, .inr (6, [.ref n, .ref co, .ref sv_keep, .ref sv_scaled])) :: (co, .inr (0, [.ref n, .ref eq, .ref co_place])) :: (n, .inr (2, [.int n_nodes, .ref n_kind, .ref n_pay, .ref n_name, .ref n_ways, .ref n_held, .ref n_targets, .ref n_weights])) :: (n_kind, .inl (g 0, 12, .inl n_fkind)) :: (n_pay, .inl (g 0, 12, .inl n_fpay)) :: (n_ways, .inl (g 0, 12, .inl n_fways)) :: (n_held, .inl (g 0, 12, .inl n_fheld)) :: (n_targets, .inl (g 0, 36, .inl n_ftargets)) :: (n_weights, .inl (g 0, 36, .inl n_fweights)) :: (co_place, .inl (g 0, 12, .inl opc)) :: (eq, .inr (1, [.ref eq_rows, .ref eq_right, .long oew])) :: (eq_right, .inl (g 1, 8, .inr (.inl ofr))) :: (eq_rows, .inl (g 5, 8, .inr (.inr (.inr (.inr (fun i => if i < 8 then some (rr i) else none)))))) :: ((rr 0), .inl (g 1, 8, .inr (.inl (oct 0)))) :: ((rr 1), .inl (g 1, 8, .inr (.inl (oct 1)))) :: ((rr 2), .inl (g 1, 8, .inr (.inl (oct 2)))) :: ((rr 3), .inl (g 1, 8, .inr (.inl (oct 3)))) :: ((rr 4), .inl (g 1, 8, .inr (.inl (oct 4)))) :: ((rr 5), .inl (g 1, 8, .inr (.inl (oct 5)))) :: ((rr 6), .inl (g 1, 8, .inr (.inl (oct 6)))) :: ((rr 7), .inl (g 1, 8, .inr (.inl (oct 7)))) :: (sv_keep, .inl (g 0, 12, .inl okp)) :: (oc_plan, .inl (g 0, 12, .inl xpf)) :: (oc_reach, .inl (g 0, 12, .inl xrf)) :: (oc_ringBits, .inl (g 0, 12, .inl xbf)) :: (ow, .inr (10, [.ref ow_part, .long xow])) :: (ow_part, .inl (g 1, 12, .inr (.inl xowp))) :: (ol, .inr (10, [.ref ol_part, .long xol])) :: (ol_part, .inl (g 1, 12, .inr (.inl xolp))) :: [])) (va_A ((oc, .inr (3, [.ref n, .ref sv, .ref oc_plan, .ref ow, .ref ol, .ref oc_reach, .ref oc_ringBits, .int orc, .int orn, .int ose])) :: (sv, .inr (6, [.ref n, .ref co, .ref sv_keep, .ref sv_scaled])) :: (co, .inr (0, [.ref n, .ref eq, .ref co_place])) :: (n, .inr (2, [.int n_nodes, .ref n_kind, .ref n_pay, .ref n_name, .ref n_ways, .ref n_held, .ref n_targets, .ref n_weights])) :: (n_kind, .inl (g 0, 12, .inl n_fkind)) :: (n_pay, .inl (g 0, 12, .inl n_fpay)) :: (n_ways, .inl (g 0, 12, .inl n_fways)) :: (n_held, .inl (g 0, 12, .inl n_fheld)) :: (n_targets, .inl (g 0, 36, .inl n_ftargets)) :: (n_weights, .inl (g 0, 36, .inl n_fweights)) :: (co_place, .inl (g 0, 12, .inl pcf)) :: (eq, .inr (1, [.ref eq_rows, .ref eq_right, .long ew])) :: (eq_right, .inl (g 1, 8, .inr (.inl fr))) :: (eq_rows, .inl (g 5, 8, .inr (.inr (.inr (.inr (fun i => if i < 8 then some (rr i) else none)))))) :: ((rr 0), .inl (g 1, 8, .inr (.inl (ct 0)))) :: ((rr 1), .inl (g 1, 8, .inr (.inl (ct 1)))) :: ((rr 2), .inl (g 1, 8, .inr (.inl (ct 2)))) :: ((rr 3), .inl (g 1, 8, .inr (.inl (ct 3)))) :: ((rr 4), .inl (g 1, 8, .inr (.inl (ct 4)))) :: ((rr 5), .inl (g 1, 8, .inr (.inl (ct 5)))) :: ((rr 6), .inl (g 1, 8, .inr (.inl (ct 6)))) :: ((rr 7), .inl (g 1, 8, .inr (.inl (ct 7)))) :: (sv_keep, .inl (g 0, 12, .inl kpf)) :: (oc_plan, .inl (g 0, 12, .inl opf)) :: (oc_reach, .inl (g 0, 12, .inl orf)) :: (oc_ringBits, .inl (g 0, 12, .inl obf)) :: (ow, .inr (10, [.ref ow_part, .long oww])) :: (ow_part, .inl (g 1, 12, .inr (.inl owp))) :: (ol, .inr (10, [.ref ol_part, .long olw])) :: (ol_part, .inl (g 1, 12, .inr (.inl olp))) :: []) sz)) 0 0 (va_A ((oc, .inr (3, [.ref n, .ref sv, .ref oc_plan, .ref ow, .ref ol, .ref oc_reach, .ref oc_ringBits, .int orc, .int orn, .int ose])) :: (sv, .inr (6, [.ref n, .ref co, .ref sv_keep, .ref sv_scaled])) :: (co, .inr (0, [.ref n, .ref eq, .ref co_place])) :: (n, .inr (2, [.int n_nodes, .ref n_kind, .ref n_pay, .ref n_name, .ref n_ways, .ref n_held, .ref n_targets, .ref n_weights])) :: (n_kind, .inl (g 0, 12, .inl n_fkind)) :: (n_pay, .inl (g 0, 12, .inl n_fpay)) :: (n_ways, .inl (g 0, 12, .inl n_fways)) :: (n_held, .inl (g 0, 12, .inl n_fheld)) :: (n_targets, .inl (g 0, 36, .inl n_ftargets)) :: (n_weights, .inl (g 0, 36, .inl n_fweights)) :: (co_place, .inl (g 0, 12, .inl pcf)) :: (eq, .inr (1, [.ref eq_rows, .ref eq_right, .long ew])) :: (eq_right, .inl (g 1, 8, .inr (.inl fr))) :: (eq_rows, .inl (g 5, 8, .inr (.inr (.inr (.inr (fun i => if i < 8 then some (rr i) else none)))))) :: ((rr 0), .inl (g 1, 8, .inr (.inl (ct 0)))) :: ((rr 1), .inl (g 1, 8, .inr (.inl (ct 1)))) :: ((rr 2), .inl (g 1, 8, .inr (.inl (ct 2)))) :: ((rr 3), .inl (g 1, 8, .inr (.inl (ct 3)))) :: ((rr 4), .inl (g 1, 8, .inr (.inl (ct 4)))) :: ((rr 5), .inl (g 1, 8, .inr (.inl (ct 5)))) :: ((rr 6), .inl (g 1, 8, .inr (.inl (ct 6)))) :: ((rr 7), .inl (g 1, 8, .inr (.inl (ct 7)))) :: (sv_keep, .inl (g 0, 12, .inl kpf)) :: (oc_plan, .inl (g 0, 12, .inl opf)) :: (oc_reach, .inl (g 0, 12, .inl orf)) :: (oc_ringBits, .inl (g 0, 12, .inl obf)) :: (ow, .inr (10, [.ref ow_part, .long oww])) :: (ow_part, .inl (g 1, 12, .inr (.inl owp))) :: (ol, .inr (10, [.ref ol_part, .long olw])) :: (ol_part, .inl (g 1, 12, .inr (.inl olp))) :: []) sz) := by
  refine Met.ofW (cc := cX3_settle) (maxL := 3) (ret := none) (by decide) rfl ?_
  intro p e s m args below meth c s₁ B hml hv
  obtain ⟨ha, hsz, hP, hK, hD0⟩ := hv
  have hx := B.exec
  have hb := B.bytes
  have hr := B.returns
  have hts0 := atoms_spec (ws := (.code yX3_settle cX3_settle 3 none :: wsL_law)) B.pre
  have hts : ∀ w ∈ wsL_law, w.before args s = true := fun w h => hts0 w (List.mem_cons_of_mem _ h)
  have hown : s.vm.findClass RX3 = some m.cls := findClass_of_methodNamed B.named
  have hlocks := B.notSynchronized
  subst hsz
  have hD := hD0.self (sz := s.heap.size)
  generalize hAe : va_A ((oc, .inr (3, [.ref n, .ref sv, .ref oc_plan, .ref ow, .ref ol, .ref oc_reach, .ref oc_ringBits, .int orc, .int orn, .int ose])) :: (sv, .inr (6, [.ref n, .ref co, .ref sv_keep, .ref sv_scaled])) :: (co, .inr (0, [.ref n, .ref eq, .ref co_place])) :: (n, .inr (2, [.int n_nodes, .ref n_kind, .ref n_pay, .ref n_name, .ref n_ways, .ref n_held, .ref n_targets, .ref n_weights])) :: (n_kind, .inl (g 0, 12, .inl n_fkind)) :: (n_pay, .inl (g 0, 12, .inl n_fpay)) :: (n_ways, .inl (g 0, 12, .inl n_fways)) :: (n_held, .inl (g 0, 12, .inl n_fheld)) :: (n_targets, .inl (g 0, 36, .inl n_ftargets)) :: (n_weights, .inl (g 0, 36, .inl n_fweights)) :: (co_place, .inl (g 0, 12, .inl pcf)) :: (eq, .inr (1, [.ref eq_rows, .ref eq_right, .long ew])) :: (eq_right, .inl (g 1, 8, .inr (.inl fr))) :: (eq_rows, .inl (g 5, 8, .inr (.inr (.inr (.inr (fun i => if i < 8 then some (rr i) else none)))))) :: ((rr 0), .inl (g 1, 8, .inr (.inl (ct 0)))) :: ((rr 1), .inl (g 1, 8, .inr (.inl (ct 1)))) :: ((rr 2), .inl (g 1, 8, .inr (.inl (ct 2)))) :: ((rr 3), .inl (g 1, 8, .inr (.inl (ct 3)))) :: ((rr 4), .inl (g 1, 8, .inr (.inl (ct 4)))) :: ((rr 5), .inl (g 1, 8, .inr (.inl (ct 5)))) :: ((rr 6), .inl (g 1, 8, .inr (.inl (ct 6)))) :: ((rr 7), .inl (g 1, 8, .inr (.inl (ct 7)))) :: (sv_keep, .inl (g 0, 12, .inl kpf)) :: (oc_plan, .inl (g 0, 12, .inl opf)) :: (oc_reach, .inl (g 0, 12, .inl orf)) :: (oc_ringBits, .inl (g 0, 12, .inl obf)) :: (ow, .inr (10, [.ref ow_part, .long oww])) :: (ow_part, .inl (g 1, 12, .inr (.inl owp))) :: (ol, .inr (10, [.ref ol_part, .long olw])) :: (ol_part, .inl (g 1, 12, .inr (.inl olp))) :: []) s.heap.size = A at hD ⊢
  have hA : ∀ q : Nat, s.heap.size ≤ q → A q := fun q h => by rw [← hAe]; exact Or.inr h
  have hS : va_S A s.heap s.heap [] := va_S.rf
  have hP : va_P D vwCl ((oc, .inr (3, [.ref n, .ref sv, .ref oc_plan, .ref ow, .ref ol, .ref oc_reach, .ref oc_ringBits, .int orc, .int orn, .int ose])) :: (sv, .inr (6, [.ref n, .ref co, .ref sv_keep, .ref sv_scaled])) :: (co, .inr (0, [.ref n, .ref eq, .ref co_place])) :: (n, .inr (2, [.int n_nodes, .ref n_kind, .ref n_pay, .ref n_name, .ref n_ways, .ref n_held, .ref n_targets, .ref n_weights])) :: (n_kind, .inl (g 0, 12, .inl n_fkind)) :: (n_pay, .inl (g 0, 12, .inl n_fpay)) :: (n_ways, .inl (g 0, 12, .inl n_fways)) :: (n_held, .inl (g 0, 12, .inl n_fheld)) :: (n_targets, .inl (g 0, 36, .inl n_ftargets)) :: (n_weights, .inl (g 0, 36, .inl n_fweights)) :: (co_place, .inl (g 0, 12, .inl pcf)) :: (eq, .inr (1, [.ref eq_rows, .ref eq_right, .long ew])) :: (eq_right, .inl (g 1, 8, .inr (.inl fr))) :: (eq_rows, .inl (g 5, 8, .inr (.inr (.inr (.inr (fun i => if i < 8 then some (rr i) else none)))))) :: ((rr 0), .inl (g 1, 8, .inr (.inl (ct 0)))) :: ((rr 1), .inl (g 1, 8, .inr (.inl (ct 1)))) :: ((rr 2), .inl (g 1, 8, .inr (.inl (ct 2)))) :: ((rr 3), .inl (g 1, 8, .inr (.inl (ct 3)))) :: ((rr 4), .inl (g 1, 8, .inr (.inl (ct 4)))) :: ((rr 5), .inl (g 1, 8, .inr (.inl (ct 5)))) :: ((rr 6), .inl (g 1, 8, .inr (.inl (ct 6)))) :: ((rr 7), .inl (g 1, 8, .inr (.inl (ct 7)))) :: (sv_keep, .inl (g 0, 12, .inl kpf)) :: (oc_plan, .inl (g 0, 12, .inl opf)) :: (oc_reach, .inl (g 0, 12, .inl orf)) :: (oc_ringBits, .inl (g 0, 12, .inl obf)) :: (ow, .inr (10, [.ref ow_part, .long oww])) :: (ow_part, .inl (g 1, 12, .inr (.inl owp))) :: (ol, .inr (10, [.ref ol_part, .long olw])) :: (ol_part, .inl (g 1, 12, .inr (.inl olp))) :: []) s.heap := hP
  refine W.eq (g2 := entryFrame m ([.ref oc] : List Value).toArray 3) (by rw [ha]) ?_
  have hl := lv_entry ([.ref oc]) (n := 3) (Nat.le_of_ble_eq_true rfl)
  rw [lg_entry_eq]
  generalize (lg_sl ([.ref oc]) ++ List.replicate (3 - (lg_sl ([.ref oc])).length) Slot.unset).toArray = ls at hl ⊢
  have hl : lv_has ls 3 [(0, .ref oc)] := hl
  refine lv_aload_n hx hb dX3_settle_0 rfl (lv_at hl 0 rfl) ?_
  refine va_get (D := D) (ci := 3) (v := .int ose) (C := RX3) (T := TX3) (N := 10) hx hb hts inlX3 hown hK hP 0 rfl rfl 9 (by decide) (hts (Cond.fieldLink RX3 39 "ChanceRings$Outcome" "settled" "Z") qw_667) (fun _ h9 => h9) rfl dX3_settle_1 ?_
  refine lv_if_eq (tgt := 8) hx hb dX3_settle_4 (by decide) (fun c_111833 => ?_) (fun c_111833 => ?_)
  · skip
    have c_111833_i := c_111833
    have c_111833_i : (ose : Int32).toInt = (0 : Int32).toInt := congrArg Int32.toInt c_111833
    have h_111834 : 0 ≤ (ose : Int32).toInt ∧ (ose : Int32).toInt ≤ 0 := by have q1 := h_ose; have q2 := (⟨by decide, by decide⟩ : 0 ≤ (0 : Int32).toInt ∧ (0 : Int32).toInt ≤ 0); omega
    refine lv_aload_n hx hb dX3_settle_8 rfl (lv_at hl 0 rfl) ?_
    refine va_get (D := D) (ci := 3) (v := .ref sv) (C := RX3) (T := TX3) (N := 10) hx hb hts inlX3 hown hK hP 0 rfl rfl 1 (by decide) (hts (Cond.fieldLink RX3 35 "ChanceRings$Outcome" "solver" "LChanceRings$Solver;") qw_639) (fun _ h9 => h9) rfl dX3_settle_9 ?_
    refine lv_aload_n hx hb dX3_settle_12 rfl (lv_at hl 0 rfl) ?_
    refine va_get (D := D) (ci := 3) (v := .ref oc_plan) (C := RX3) (T := TX3) (N := 10) hx hb hts inlX3 hown hK hP 0 rfl rfl 2 (by decide) (hts (Cond.fieldLink RX3 9 "ChanceRings$Outcome" "plan" "[I") qw_641) (fun _ h9 => h9) rfl dX3_settle_13 ?_
    have hPc := hP.sub (ws' := [(sv, .inr (6, [.ref n, .ref co, .ref sv_keep, .ref sv_scaled])), (n, .inr (2, [.int n_nodes, .ref n_kind, .ref n_pay, .ref n_name, .ref n_ways, .ref n_held, .ref n_targets, .ref n_weights])), (n_held, .inl (g 0, 12, .inl n_fheld)), (oc_plan, .inl (g 0, 12, .inl opf))]) [1, 3, 7, 23] rfl
    have hDc := hD.sub (ws' := [(sv, .inr (6, [.ref n, .ref co, .ref sv_keep, .ref sv_scaled])), (n, .inr (2, [.int n_nodes, .ref n_kind, .ref n_pay, .ref n_name, .ref n_ways, .ref n_held, .ref n_targets, .ref n_weights])), (n_held, .inl (g 0, 12, .inl n_fheld)), (oc_plan, .inl (g 0, 12, .inl opf))]) [1, 3, 7, 23] (by decide) rfl
    have hFc := va_free (wc := [(sv, .inr (6, [.ref n, .ref co, .ref sv_keep, .ref sv_scaled])), (n, .inr (2, [.int n_nodes, .ref n_kind, .ref n_pay, .ref n_name, .ref n_ways, .ref n_held, .ref n_targets, .ref n_weights])), (n_held, .inl (g 0, 12, .inl n_fheld)), (oc_plan, .inl (g 0, 12, .inl opf))]) hD hS hA [1, 3, 7, 23] rfl
    refine va_callv (va_runV (As := [.ref oc_plan]) (rest := []) ⟨hx, hb, hml, hown, hts⟩ (c_X6_firstWays l D g s.heap.size sv oc_plan n co sv_keep sv_scaled n_nodes n_kind n_pay n_name n_ways n_held n_targets n_weights n_fheld opf (tr_w h_n_nodes (by decide) (by decide)) (tr_wa h_n_fheld (by decide) (by decide)) (tr_wa h_opf (by decide) (by decide))) (cwV 1 hts (tz_gV qw_668 qw_669 qw_670 qw_558 qw_671) rfl rfl rfl (by decide +kernel) ⟨Nat.le_of_ble_eq_true rfl, Nat.le_of_ble_eq_true rfl⟩) ⟨tz_blQ, va_recv hK hPc (ci := 6) (q0 := 0) rfl rfl, tz_preQ hPc hK hDc⟩ rfl rfl hl.1 rfl (lv_room (Nat.le_of_ble_eq_true rfl)) dX3_settle_16 ⟨Nat.le_of_ble_eq_true rfl, Nat.le_of_ble_eq_true rfl⟩) hS (fun q _ h => hFc q h) hFc (fun u t H1 locs ht hvm hw hB hz1 hk1 hS => ?_)
    obtain ⟨opl_111837, hf_111838, hP1, hD1⟩ := hB
    rw [ht] at hP1
    obtain ⟨hP, hD⟩ := va_join (wr := [(oc, .inr (3, [.ref n, .ref sv, .ref oc_plan, .ref ow, .ref ol, .ref oc_reach, .ref oc_ringBits, .int orc, .int orn, .int ose])), (co, .inr (0, [.ref n, .ref eq, .ref co_place])), (n_kind, .inl (g 0, 12, .inl n_fkind)), (n_pay, .inl (g 0, 12, .inl n_fpay)), (n_ways, .inl (g 0, 12, .inl n_fways)), (n_targets, .inl (g 0, 36, .inl n_ftargets)), (n_weights, .inl (g 0, 36, .inl n_fweights)), (co_place, .inl (g 0, 12, .inl pcf)), (eq, .inr (1, [.ref eq_rows, .ref eq_right, .long ew])), (eq_right, .inl (g 1, 8, .inr (.inl fr))), (eq_rows, .inl (g 5, 8, .inr (.inr (.inr (.inr (fun i => if i < 8 then some (rr i) else none)))))), ((rr 0), .inl (g 1, 8, .inr (.inl (ct 0)))), ((rr 1), .inl (g 1, 8, .inr (.inl (ct 1)))), ((rr 2), .inl (g 1, 8, .inr (.inl (ct 2)))), ((rr 3), .inl (g 1, 8, .inr (.inl (ct 3)))), ((rr 4), .inl (g 1, 8, .inr (.inl (ct 4)))), ((rr 5), .inl (g 1, 8, .inr (.inl (ct 5)))), ((rr 6), .inl (g 1, 8, .inr (.inl (ct 6)))), ((rr 7), .inl (g 1, 8, .inr (.inl (ct 7)))), (sv_keep, .inl (g 0, 12, .inl kpf)), (oc_reach, .inl (g 0, 12, .inl orf)), (oc_ringBits, .inl (g 0, 12, .inl obf)), (ow, .inr (10, [.ref ow_part, .long oww])), (ow_part, .inl (g 1, 12, .inr (.inl owp))), (ol, .inr (10, [.ref ol_part, .long olw])), (ol_part, .inl (g 1, 12, .inr (.inl olp)))]) (w1 := [(sv, .inr (6, [.ref n, .ref co, .ref sv_keep, .ref sv_scaled])), (n, .inr (2, [.int n_nodes, .ref n_kind, .ref n_pay, .ref n_name, .ref n_ways, .ref n_held, .ref n_targets, .ref n_weights])), (n_held, .inl (g 0, 12, .inl n_fheld)), (oc_plan, .inl (g 0, 12, .inl opl_111837))]) hP hD [1, 3, 7, 23] [0, 2, 4, 5, 6, 8, 9, 10, 11, 12, 13, 14, 15, 16, 17, 18, 19, 20, 21, 22, 24, 25, 26, 27, 28, 29] rfl rfl (by decide) (by decide) hk1 hFc hP1 hD1
    generalize H1 = H at hP hS ⊢
    have hP : va_P D vwCl ((oc, .inr (3, [.ref n, .ref sv, .ref oc_plan, .ref ow, .ref ol, .ref oc_reach, .ref oc_ringBits, .int orc, .int orn, .int ose])) :: (co, .inr (0, [.ref n, .ref eq, .ref co_place])) :: (n_kind, .inl (g 0, 12, .inl n_fkind)) :: (n_pay, .inl (g 0, 12, .inl n_fpay)) :: (n_ways, .inl (g 0, 12, .inl n_fways)) :: (n_targets, .inl (g 0, 36, .inl n_ftargets)) :: (n_weights, .inl (g 0, 36, .inl n_fweights)) :: (co_place, .inl (g 0, 12, .inl pcf)) :: (eq, .inr (1, [.ref eq_rows, .ref eq_right, .long ew])) :: (eq_right, .inl (g 1, 8, .inr (.inl fr))) :: (eq_rows, .inl (g 5, 8, .inr (.inr (.inr (.inr (fun i => if i < 8 then some (rr i) else none)))))) :: ((rr 0), .inl (g 1, 8, .inr (.inl (ct 0)))) :: ((rr 1), .inl (g 1, 8, .inr (.inl (ct 1)))) :: ((rr 2), .inl (g 1, 8, .inr (.inl (ct 2)))) :: ((rr 3), .inl (g 1, 8, .inr (.inl (ct 3)))) :: ((rr 4), .inl (g 1, 8, .inr (.inl (ct 4)))) :: ((rr 5), .inl (g 1, 8, .inr (.inl (ct 5)))) :: ((rr 6), .inl (g 1, 8, .inr (.inl (ct 6)))) :: ((rr 7), .inl (g 1, 8, .inr (.inl (ct 7)))) :: (sv_keep, .inl (g 0, 12, .inl kpf)) :: (oc_reach, .inl (g 0, 12, .inl orf)) :: (oc_ringBits, .inl (g 0, 12, .inl obf)) :: (ow, .inr (10, [.ref ow_part, .long oww])) :: (ow_part, .inl (g 1, 12, .inr (.inl owp))) :: (ol, .inr (10, [.ref ol_part, .long olw])) :: (ol_part, .inl (g 1, 12, .inr (.inl olp))) :: (sv, .inr (6, [.ref n, .ref co, .ref sv_keep, .ref sv_scaled])) :: (n, .inr (2, [.int n_nodes, .ref n_kind, .ref n_pay, .ref n_name, .ref n_ways, .ref n_held, .ref n_targets, .ref n_weights])) :: (n_held, .inl (g 0, 12, .inl n_fheld)) :: (oc_plan, .inl (g 0, 12, .inl opl_111837)) :: []) H := hP
    have hD : va_D A ((oc, .inr (3, [.ref n, .ref sv, .ref oc_plan, .ref ow, .ref ol, .ref oc_reach, .ref oc_ringBits, .int orc, .int orn, .int ose])) :: (co, .inr (0, [.ref n, .ref eq, .ref co_place])) :: (n_kind, .inl (g 0, 12, .inl n_fkind)) :: (n_pay, .inl (g 0, 12, .inl n_fpay)) :: (n_ways, .inl (g 0, 12, .inl n_fways)) :: (n_targets, .inl (g 0, 36, .inl n_ftargets)) :: (n_weights, .inl (g 0, 36, .inl n_fweights)) :: (co_place, .inl (g 0, 12, .inl pcf)) :: (eq, .inr (1, [.ref eq_rows, .ref eq_right, .long ew])) :: (eq_right, .inl (g 1, 8, .inr (.inl fr))) :: (eq_rows, .inl (g 5, 8, .inr (.inr (.inr (.inr (fun i => if i < 8 then some (rr i) else none)))))) :: ((rr 0), .inl (g 1, 8, .inr (.inl (ct 0)))) :: ((rr 1), .inl (g 1, 8, .inr (.inl (ct 1)))) :: ((rr 2), .inl (g 1, 8, .inr (.inl (ct 2)))) :: ((rr 3), .inl (g 1, 8, .inr (.inl (ct 3)))) :: ((rr 4), .inl (g 1, 8, .inr (.inl (ct 4)))) :: ((rr 5), .inl (g 1, 8, .inr (.inl (ct 5)))) :: ((rr 6), .inl (g 1, 8, .inr (.inl (ct 6)))) :: ((rr 7), .inl (g 1, 8, .inr (.inl (ct 7)))) :: (sv_keep, .inl (g 0, 12, .inl kpf)) :: (oc_reach, .inl (g 0, 12, .inl orf)) :: (oc_ringBits, .inl (g 0, 12, .inl obf)) :: (ow, .inr (10, [.ref ow_part, .long oww])) :: (ow_part, .inl (g 1, 12, .inr (.inl owp))) :: (ol, .inr (10, [.ref ol_part, .long olw])) :: (ol_part, .inl (g 1, 12, .inr (.inl olp))) :: (sv, .inr (6, [.ref n, .ref co, .ref sv_keep, .ref sv_scaled])) :: (n, .inr (2, [.int n_nodes, .ref n_kind, .ref n_pay, .ref n_name, .ref n_ways, .ref n_held, .ref n_targets, .ref n_weights])) :: (n_held, .inl (g 0, 12, .inl n_fheld)) :: (oc_plan, .inl (g 0, 12, .inl opl_111837)) :: []) := hD
    refine lv_aload_n hx hb dX3_settle_19 rfl (lv_at hl 0 rfl) ?_
    refine va_get (D := D) (ci := 3) (v := .ref sv) (C := RX3) (T := TX3) (N := 10) hx hb hts inlX3 hown hK hP 0 rfl rfl 1 (by decide) (hts (Cond.fieldLink RX3 35 "ChanceRings$Outcome" "solver" "LChanceRings$Solver;") qw_639) (fun _ h9 => h9) rfl dX3_settle_20 ?_
    refine lv_aload_n hx hb dX3_settle_23 rfl (lv_at hl 0 rfl) ?_
    refine va_get (D := D) (ci := 3) (v := .ref oc_plan) (C := RX3) (T := TX3) (N := 10) hx hb hts inlX3 hown hK hP 0 rfl rfl 2 (by decide) (hts (Cond.fieldLink RX3 9 "ChanceRings$Outcome" "plan" "[I") qw_641) (fun _ h9 => h9) rfl dX3_settle_24 ?_
    refine lv_iconst (v := 1) hx hb dX3_settle_27 (by decide) ?_
    refine lv_iconst (v := 1) hx hb dX3_settle_28 (by decide) ?_
    refine lv_aload_n hx hb dX3_settle_29 rfl (lv_at hl 0 rfl) ?_
    refine va_get (D := D) (ci := 3) (v := .ref ow) (C := RX3) (T := TX3) (N := 10) hx hb hts inlX3 hown hK hP 0 rfl rfl 3 (by decide) (hts (Cond.fieldLink RX3 18 "ChanceRings$Outcome" "worth" "LChanceRings$Values;") qw_652) (fun _ h9 => h9) rfl dX3_settle_30 ?_
    have hPc := hP.sub (ws' := [(sv, .inr (6, [.ref n, .ref co, .ref sv_keep, .ref sv_scaled])), (co, .inr (0, [.ref n, .ref eq, .ref co_place])), (n, .inr (2, [.int n_nodes, .ref n_kind, .ref n_pay, .ref n_name, .ref n_ways, .ref n_held, .ref n_targets, .ref n_weights])), (n_kind, .inl (g 0, 12, .inl n_fkind)), (n_pay, .inl (g 0, 12, .inl n_fpay)), (n_ways, .inl (g 0, 12, .inl n_fways)), (n_held, .inl (g 0, 12, .inl n_fheld)), (n_targets, .inl (g 0, 36, .inl n_ftargets)), (n_weights, .inl (g 0, 36, .inl n_fweights)), (co_place, .inl (g 0, 12, .inl pcf)), (eq, .inr (1, [.ref eq_rows, .ref eq_right, .long ew])), (eq_right, .inl (g 1, 8, .inr (.inl fr))), (eq_rows, .inl (g 5, 8, .inr (.inr (.inr (.inr (fun i => if i < 8 then some (rr i) else none)))))), ((rr 0), .inl (g 1, 8, .inr (.inl (ct 0)))), ((rr 1), .inl (g 1, 8, .inr (.inl (ct 1)))), ((rr 2), .inl (g 1, 8, .inr (.inl (ct 2)))), ((rr 3), .inl (g 1, 8, .inr (.inl (ct 3)))), ((rr 4), .inl (g 1, 8, .inr (.inl (ct 4)))), ((rr 5), .inl (g 1, 8, .inr (.inl (ct 5)))), ((rr 6), .inl (g 1, 8, .inr (.inl (ct 6)))), ((rr 7), .inl (g 1, 8, .inr (.inl (ct 7)))), (oc_plan, .inl (g 0, 12, .inl opl_111837)), (ow, .inr (10, [.ref ow_part, .long oww])), (ow_part, .inl (g 1, 12, .inr (.inl owp)))]) [26, 1, 27, 2, 3, 4, 28, 5, 6, 7, 8, 9, 10, 11, 12, 13, 14, 15, 16, 17, 18, 29, 22, 23] rfl
    have hDc := hD.sub (ws' := [(sv, .inr (6, [.ref n, .ref co, .ref sv_keep, .ref sv_scaled])), (co, .inr (0, [.ref n, .ref eq, .ref co_place])), (n, .inr (2, [.int n_nodes, .ref n_kind, .ref n_pay, .ref n_name, .ref n_ways, .ref n_held, .ref n_targets, .ref n_weights])), (n_kind, .inl (g 0, 12, .inl n_fkind)), (n_pay, .inl (g 0, 12, .inl n_fpay)), (n_ways, .inl (g 0, 12, .inl n_fways)), (n_held, .inl (g 0, 12, .inl n_fheld)), (n_targets, .inl (g 0, 36, .inl n_ftargets)), (n_weights, .inl (g 0, 36, .inl n_fweights)), (co_place, .inl (g 0, 12, .inl pcf)), (eq, .inr (1, [.ref eq_rows, .ref eq_right, .long ew])), (eq_right, .inl (g 1, 8, .inr (.inl fr))), (eq_rows, .inl (g 5, 8, .inr (.inr (.inr (.inr (fun i => if i < 8 then some (rr i) else none)))))), ((rr 0), .inl (g 1, 8, .inr (.inl (ct 0)))), ((rr 1), .inl (g 1, 8, .inr (.inl (ct 1)))), ((rr 2), .inl (g 1, 8, .inr (.inl (ct 2)))), ((rr 3), .inl (g 1, 8, .inr (.inl (ct 3)))), ((rr 4), .inl (g 1, 8, .inr (.inl (ct 4)))), ((rr 5), .inl (g 1, 8, .inr (.inl (ct 5)))), ((rr 6), .inl (g 1, 8, .inr (.inl (ct 6)))), ((rr 7), .inl (g 1, 8, .inr (.inl (ct 7)))), (oc_plan, .inl (g 0, 12, .inl opl_111837)), (ow, .inr (10, [.ref ow_part, .long oww])), (ow_part, .inl (g 1, 12, .inr (.inl owp)))]) [26, 1, 27, 2, 3, 4, 28, 5, 6, 7, 8, 9, 10, 11, 12, 13, 14, 15, 16, 17, 18, 29, 22, 23] (by decide) rfl
    have hFc := va_free (wc := [(sv, .inr (6, [.ref n, .ref co, .ref sv_keep, .ref sv_scaled])), (co, .inr (0, [.ref n, .ref eq, .ref co_place])), (n, .inr (2, [.int n_nodes, .ref n_kind, .ref n_pay, .ref n_name, .ref n_ways, .ref n_held, .ref n_targets, .ref n_weights])), (n_kind, .inl (g 0, 12, .inl n_fkind)), (n_pay, .inl (g 0, 12, .inl n_fpay)), (n_ways, .inl (g 0, 12, .inl n_fways)), (n_held, .inl (g 0, 12, .inl n_fheld)), (n_targets, .inl (g 0, 36, .inl n_ftargets)), (n_weights, .inl (g 0, 36, .inl n_fweights)), (co_place, .inl (g 0, 12, .inl pcf)), (eq, .inr (1, [.ref eq_rows, .ref eq_right, .long ew])), (eq_right, .inl (g 1, 8, .inr (.inl fr))), (eq_rows, .inl (g 5, 8, .inr (.inr (.inr (.inr (fun i => if i < 8 then some (rr i) else none)))))), ((rr 0), .inl (g 1, 8, .inr (.inl (ct 0)))), ((rr 1), .inl (g 1, 8, .inr (.inl (ct 1)))), ((rr 2), .inl (g 1, 8, .inr (.inl (ct 2)))), ((rr 3), .inl (g 1, 8, .inr (.inl (ct 3)))), ((rr 4), .inl (g 1, 8, .inr (.inl (ct 4)))), ((rr 5), .inl (g 1, 8, .inr (.inl (ct 5)))), ((rr 6), .inl (g 1, 8, .inr (.inl (ct 6)))), ((rr 7), .inl (g 1, 8, .inr (.inl (ct 7)))), (oc_plan, .inl (g 0, 12, .inl opl_111837)), (ow, .inr (10, [.ref ow_part, .long oww])), (ow_part, .inl (g 1, 12, .inr (.inl owp)))]) hD hS hA [26, 1, 27, 2, 3, 4, 28, 5, 6, 7, 8, 9, 10, 11, 12, 13, 14, 15, 16, 17, 18, 29, 22, 23] rfl
    refine va_callv (va_runV (As := [.ref oc_plan, .int 1, .int 1, .ref ow]) (rest := []) ⟨hx, hb, hml, hown, hts⟩ (c_X6_findWorth l D g H.size sv oc_plan 1 1 ow n co sv_keep sv_scaled eq co_place n_nodes n_kind n_pay n_name n_ways n_held n_targets n_weights n_fkind n_fpay n_fways n_fheld n_ftargets n_fweights pcf eq_rows eq_right ew fr rr ct opl_111837 ow_part oww owp (tr_w h_n_nodes (by decide) (by decide)) (tr_wa h_n_fkind (by decide) (by decide)) (tr_wa h_n_fways (by decide) (by decide)) (tr_wa h_n_fheld (by decide) (by decide)) (tr_wa h_n_ftargets (by decide) (by decide)) (tr_wa h_pcf (by decide) (by decide)) (tr_wa hf_111838 (by decide) (by decide))) (cwV 4 hts (tz_gV qw_672 qw_673 qw_674 qw_558 qw_675) rfl rfl rfl (by decide +kernel) ⟨Nat.le_of_ble_eq_true rfl, Nat.le_of_ble_eq_true rfl⟩) ⟨tz_blQ, va_recv hK hPc (ci := 6) (q0 := 0) rfl rfl, tz_preQ hPc hK hDc⟩ rfl rfl hl.1 rfl (lv_room (Nat.le_of_ble_eq_true rfl)) dX3_settle_33 ⟨Nat.le_of_ble_eq_true rfl, Nat.le_of_ble_eq_true rfl⟩) hS (fun q _ h => hFc q h) hFc (fun u t H1 locs ht hvm hw hB hz1 hk1 hS => ?_)
    obtain ⟨opc_111840, oew_111841, ofr_111842, opl_111843, ovw_111844, ovp_111845, oct_111846, hf_111847, hf_111848, hP1, hD1⟩ := hB
    rw [ht] at hP1
    obtain ⟨hP, hD⟩ := va_join (wr := [(oc, .inr (3, [.ref n, .ref sv, .ref oc_plan, .ref ow, .ref ol, .ref oc_reach, .ref oc_ringBits, .int orc, .int orn, .int ose])), (sv_keep, .inl (g 0, 12, .inl kpf)), (oc_reach, .inl (g 0, 12, .inl orf)), (oc_ringBits, .inl (g 0, 12, .inl obf)), (ol, .inr (10, [.ref ol_part, .long olw])), (ol_part, .inl (g 1, 12, .inr (.inl olp)))]) (w1 := [(sv, .inr (6, [.ref n, .ref co, .ref sv_keep, .ref sv_scaled])), (co, .inr (0, [.ref n, .ref eq, .ref co_place])), (n, .inr (2, [.int n_nodes, .ref n_kind, .ref n_pay, .ref n_name, .ref n_ways, .ref n_held, .ref n_targets, .ref n_weights])), (n_kind, .inl (g 0, 12, .inl n_fkind)), (n_pay, .inl (g 0, 12, .inl n_fpay)), (n_ways, .inl (g 0, 12, .inl n_fways)), (n_held, .inl (g 0, 12, .inl n_fheld)), (n_targets, .inl (g 0, 36, .inl n_ftargets)), (n_weights, .inl (g 0, 36, .inl n_fweights)), (co_place, .inl (g 0, 12, .inl opc_111840)), (eq, .inr (1, [.ref eq_rows, .ref eq_right, .long oew_111841])), (eq_right, .inl (g 1, 8, .inr (.inl ofr_111842))), (eq_rows, .inl (g 5, 8, .inr (.inr (.inr (.inr (fun i => if i < 8 then some (rr i) else none)))))), ((rr 0), .inl (g 1, 8, .inr (.inl (oct_111846 0)))), ((rr 1), .inl (g 1, 8, .inr (.inl (oct_111846 1)))), ((rr 2), .inl (g 1, 8, .inr (.inl (oct_111846 2)))), ((rr 3), .inl (g 1, 8, .inr (.inl (oct_111846 3)))), ((rr 4), .inl (g 1, 8, .inr (.inl (oct_111846 4)))), ((rr 5), .inl (g 1, 8, .inr (.inl (oct_111846 5)))), ((rr 6), .inl (g 1, 8, .inr (.inl (oct_111846 6)))), ((rr 7), .inl (g 1, 8, .inr (.inl (oct_111846 7)))), (oc_plan, .inl (g 0, 12, .inl opl_111843)), (ow, .inr (10, [.ref ow_part, .long ovw_111844])), (ow_part, .inl (g 1, 12, .inr (.inl ovp_111845)))]) hP hD [26, 1, 27, 2, 3, 4, 28, 5, 6, 7, 8, 9, 10, 11, 12, 13, 14, 15, 16, 17, 18, 29, 22, 23] [0, 19, 20, 21, 24, 25] rfl rfl (by decide) (by decide) hk1 hFc hP1 hD1
    generalize H1 = H at hP hS ⊢
    have hP : va_P D vwCl ((oc, .inr (3, [.ref n, .ref sv, .ref oc_plan, .ref ow, .ref ol, .ref oc_reach, .ref oc_ringBits, .int orc, .int orn, .int ose])) :: (sv_keep, .inl (g 0, 12, .inl kpf)) :: (oc_reach, .inl (g 0, 12, .inl orf)) :: (oc_ringBits, .inl (g 0, 12, .inl obf)) :: (ol, .inr (10, [.ref ol_part, .long olw])) :: (ol_part, .inl (g 1, 12, .inr (.inl olp))) :: (sv, .inr (6, [.ref n, .ref co, .ref sv_keep, .ref sv_scaled])) :: (co, .inr (0, [.ref n, .ref eq, .ref co_place])) :: (n, .inr (2, [.int n_nodes, .ref n_kind, .ref n_pay, .ref n_name, .ref n_ways, .ref n_held, .ref n_targets, .ref n_weights])) :: (n_kind, .inl (g 0, 12, .inl n_fkind)) :: (n_pay, .inl (g 0, 12, .inl n_fpay)) :: (n_ways, .inl (g 0, 12, .inl n_fways)) :: (n_held, .inl (g 0, 12, .inl n_fheld)) :: (n_targets, .inl (g 0, 36, .inl n_ftargets)) :: (n_weights, .inl (g 0, 36, .inl n_fweights)) :: (co_place, .inl (g 0, 12, .inl opc_111840)) :: (eq, .inr (1, [.ref eq_rows, .ref eq_right, .long oew_111841])) :: (eq_right, .inl (g 1, 8, .inr (.inl ofr_111842))) :: (eq_rows, .inl (g 5, 8, .inr (.inr (.inr (.inr (fun i => if i < 8 then some (rr i) else none)))))) :: ((rr 0), .inl (g 1, 8, .inr (.inl (oct_111846 0)))) :: ((rr 1), .inl (g 1, 8, .inr (.inl (oct_111846 1)))) :: ((rr 2), .inl (g 1, 8, .inr (.inl (oct_111846 2)))) :: ((rr 3), .inl (g 1, 8, .inr (.inl (oct_111846 3)))) :: ((rr 4), .inl (g 1, 8, .inr (.inl (oct_111846 4)))) :: ((rr 5), .inl (g 1, 8, .inr (.inl (oct_111846 5)))) :: ((rr 6), .inl (g 1, 8, .inr (.inl (oct_111846 6)))) :: ((rr 7), .inl (g 1, 8, .inr (.inl (oct_111846 7)))) :: (oc_plan, .inl (g 0, 12, .inl opl_111843)) :: (ow, .inr (10, [.ref ow_part, .long ovw_111844])) :: (ow_part, .inl (g 1, 12, .inr (.inl ovp_111845))) :: []) H := hP
    have hD : va_D A ((oc, .inr (3, [.ref n, .ref sv, .ref oc_plan, .ref ow, .ref ol, .ref oc_reach, .ref oc_ringBits, .int orc, .int orn, .int ose])) :: (sv_keep, .inl (g 0, 12, .inl kpf)) :: (oc_reach, .inl (g 0, 12, .inl orf)) :: (oc_ringBits, .inl (g 0, 12, .inl obf)) :: (ol, .inr (10, [.ref ol_part, .long olw])) :: (ol_part, .inl (g 1, 12, .inr (.inl olp))) :: (sv, .inr (6, [.ref n, .ref co, .ref sv_keep, .ref sv_scaled])) :: (co, .inr (0, [.ref n, .ref eq, .ref co_place])) :: (n, .inr (2, [.int n_nodes, .ref n_kind, .ref n_pay, .ref n_name, .ref n_ways, .ref n_held, .ref n_targets, .ref n_weights])) :: (n_kind, .inl (g 0, 12, .inl n_fkind)) :: (n_pay, .inl (g 0, 12, .inl n_fpay)) :: (n_ways, .inl (g 0, 12, .inl n_fways)) :: (n_held, .inl (g 0, 12, .inl n_fheld)) :: (n_targets, .inl (g 0, 36, .inl n_ftargets)) :: (n_weights, .inl (g 0, 36, .inl n_fweights)) :: (co_place, .inl (g 0, 12, .inl opc_111840)) :: (eq, .inr (1, [.ref eq_rows, .ref eq_right, .long oew_111841])) :: (eq_right, .inl (g 1, 8, .inr (.inl ofr_111842))) :: (eq_rows, .inl (g 5, 8, .inr (.inr (.inr (.inr (fun i => if i < 8 then some (rr i) else none)))))) :: ((rr 0), .inl (g 1, 8, .inr (.inl (oct_111846 0)))) :: ((rr 1), .inl (g 1, 8, .inr (.inl (oct_111846 1)))) :: ((rr 2), .inl (g 1, 8, .inr (.inl (oct_111846 2)))) :: ((rr 3), .inl (g 1, 8, .inr (.inl (oct_111846 3)))) :: ((rr 4), .inl (g 1, 8, .inr (.inl (oct_111846 4)))) :: ((rr 5), .inl (g 1, 8, .inr (.inl (oct_111846 5)))) :: ((rr 6), .inl (g 1, 8, .inr (.inl (oct_111846 6)))) :: ((rr 7), .inl (g 1, 8, .inr (.inl (oct_111846 7)))) :: (oc_plan, .inl (g 0, 12, .inl opl_111843)) :: (ow, .inr (10, [.ref ow_part, .long ovw_111844])) :: (ow_part, .inl (g 1, 12, .inr (.inl ovp_111845))) :: []) := hD
    refine lv_aload_n hx hb dX3_settle_36 rfl (lv_at hl 0 rfl) ?_
    refine va_get (D := D) (ci := 3) (v := .ref sv) (C := RX3) (T := TX3) (N := 10) hx hb hts inlX3 hown hK hP 0 rfl rfl 1 (by decide) (hts (Cond.fieldLink RX3 35 "ChanceRings$Outcome" "solver" "LChanceRings$Solver;") qw_639) (fun _ h9 => h9) rfl dX3_settle_37 ?_
    refine lv_aload_n hx hb dX3_settle_40 rfl (lv_at hl 0 rfl) ?_
    refine va_get (D := D) (ci := 3) (v := .ref ow) (C := RX3) (T := TX3) (N := 10) hx hb hts inlX3 hown hK hP 0 rfl rfl 3 (by decide) (hts (Cond.fieldLink RX3 18 "ChanceRings$Outcome" "worth" "LChanceRings$Values;") qw_652) (fun _ h9 => h9) rfl dX3_settle_41 ?_
    refine lv_aload_n hx hb dX3_settle_44 rfl (lv_at hl 0 rfl) ?_
    refine va_get (D := D) (ci := 3) (v := .ref oc_plan) (C := RX3) (T := TX3) (N := 10) hx hb hts inlX3 hown hK hP 0 rfl rfl 2 (by decide) (hts (Cond.fieldLink RX3 9 "ChanceRings$Outcome" "plan" "[I") qw_641) (fun _ h9 => h9) rfl dX3_settle_45 ?_
    have hPc := hP.sub (ws' := [(sv, .inr (6, [.ref n, .ref co, .ref sv_keep, .ref sv_scaled])), (n, .inr (2, [.int n_nodes, .ref n_kind, .ref n_pay, .ref n_name, .ref n_ways, .ref n_held, .ref n_targets, .ref n_weights])), (n_kind, .inl (g 0, 12, .inl n_fkind)), (n_pay, .inl (g 0, 12, .inl n_fpay)), (n_ways, .inl (g 0, 12, .inl n_fways)), (n_held, .inl (g 0, 12, .inl n_fheld)), (n_targets, .inl (g 0, 36, .inl n_ftargets)), (ow, .inr (10, [.ref ow_part, .long ovw_111844])), (ow_part, .inl (g 1, 12, .inr (.inl ovp_111845))), (sv_keep, .inl (g 0, 12, .inl kpf)), (oc_plan, .inl (g 0, 12, .inl opl_111843))]) [6, 8, 9, 10, 11, 12, 13, 28, 29, 1, 27] rfl
    have hDc := hD.sub (ws' := [(sv, .inr (6, [.ref n, .ref co, .ref sv_keep, .ref sv_scaled])), (n, .inr (2, [.int n_nodes, .ref n_kind, .ref n_pay, .ref n_name, .ref n_ways, .ref n_held, .ref n_targets, .ref n_weights])), (n_kind, .inl (g 0, 12, .inl n_fkind)), (n_pay, .inl (g 0, 12, .inl n_fpay)), (n_ways, .inl (g 0, 12, .inl n_fways)), (n_held, .inl (g 0, 12, .inl n_fheld)), (n_targets, .inl (g 0, 36, .inl n_ftargets)), (ow, .inr (10, [.ref ow_part, .long ovw_111844])), (ow_part, .inl (g 1, 12, .inr (.inl ovp_111845))), (sv_keep, .inl (g 0, 12, .inl kpf)), (oc_plan, .inl (g 0, 12, .inl opl_111843))]) [6, 8, 9, 10, 11, 12, 13, 28, 29, 1, 27] (by decide) rfl
    have hFc := va_free (wc := [(sv, .inr (6, [.ref n, .ref co, .ref sv_keep, .ref sv_scaled])), (n, .inr (2, [.int n_nodes, .ref n_kind, .ref n_pay, .ref n_name, .ref n_ways, .ref n_held, .ref n_targets, .ref n_weights])), (n_kind, .inl (g 0, 12, .inl n_fkind)), (n_pay, .inl (g 0, 12, .inl n_fpay)), (n_ways, .inl (g 0, 12, .inl n_fways)), (n_held, .inl (g 0, 12, .inl n_fheld)), (n_targets, .inl (g 0, 36, .inl n_ftargets)), (ow, .inr (10, [.ref ow_part, .long ovw_111844])), (ow_part, .inl (g 1, 12, .inr (.inl ovp_111845))), (sv_keep, .inl (g 0, 12, .inl kpf)), (oc_plan, .inl (g 0, 12, .inl opl_111843))]) hD hS hA [6, 8, 9, 10, 11, 12, 13, 28, 29, 1, 27] rfl
    refine va_callv (va_runV (As := [.ref ow, .ref oc_plan]) (rest := []) ⟨hx, hb, hml, hown, hts⟩ (c_X6_findBest l D g H.size sv ow oc_plan n co sv_keep sv_scaled n_nodes n_kind n_pay n_name n_ways n_held n_targets n_weights n_fkind n_fpay n_fways n_fheld n_ftargets ow_part ovw_111844 ovp_111845 kpf opl_111843 (tr_w h_n_nodes (by decide) (by decide)) (tr_wa h_n_fkind (by decide) (by decide)) (tr_wa h_n_fways (by decide) (by decide)) (tr_wa h_n_fheld (by decide) (by decide)) (tr_wa h_n_ftargets (by decide) (by decide)) (tr_wa hf_111848 (by decide) (by decide))) (cwV 2 hts (tz_gV qw_676 qw_677 qw_678 qw_558 qw_679) rfl rfl rfl (by decide +kernel) ⟨Nat.le_of_ble_eq_true rfl, Nat.le_of_ble_eq_true rfl⟩) ⟨tz_blQ, va_recv hK hPc (ci := 6) (q0 := 0) rfl rfl, tz_preQ hPc hK hDc⟩ rfl rfl hl.1 rfl (lv_room (Nat.le_of_ble_eq_true rfl)) dX3_settle_48 ⟨Nat.le_of_ble_eq_true rfl, Nat.le_of_ble_eq_true rfl⟩) hS (fun q _ h => hFc q h) hFc (fun u t H1 locs ht hvm hw hB hz1 hk1 hS => ?_)
    obtain ⟨okp_111850, opl_111851, hf_111852, hP1, hD1⟩ := hB
    rw [ht] at hP1
    obtain ⟨hP, hD⟩ := va_join (wr := [(oc, .inr (3, [.ref n, .ref sv, .ref oc_plan, .ref ow, .ref ol, .ref oc_reach, .ref oc_ringBits, .int orc, .int orn, .int ose])), (oc_reach, .inl (g 0, 12, .inl orf)), (oc_ringBits, .inl (g 0, 12, .inl obf)), (ol, .inr (10, [.ref ol_part, .long olw])), (ol_part, .inl (g 1, 12, .inr (.inl olp))), (co, .inr (0, [.ref n, .ref eq, .ref co_place])), (n_weights, .inl (g 0, 36, .inl n_fweights)), (co_place, .inl (g 0, 12, .inl opc_111840)), (eq, .inr (1, [.ref eq_rows, .ref eq_right, .long oew_111841])), (eq_right, .inl (g 1, 8, .inr (.inl ofr_111842))), (eq_rows, .inl (g 5, 8, .inr (.inr (.inr (.inr (fun i => if i < 8 then some (rr i) else none)))))), ((rr 0), .inl (g 1, 8, .inr (.inl (oct_111846 0)))), ((rr 1), .inl (g 1, 8, .inr (.inl (oct_111846 1)))), ((rr 2), .inl (g 1, 8, .inr (.inl (oct_111846 2)))), ((rr 3), .inl (g 1, 8, .inr (.inl (oct_111846 3)))), ((rr 4), .inl (g 1, 8, .inr (.inl (oct_111846 4)))), ((rr 5), .inl (g 1, 8, .inr (.inl (oct_111846 5)))), ((rr 6), .inl (g 1, 8, .inr (.inl (oct_111846 6)))), ((rr 7), .inl (g 1, 8, .inr (.inl (oct_111846 7))))]) (w1 := [(sv, .inr (6, [.ref n, .ref co, .ref sv_keep, .ref sv_scaled])), (n, .inr (2, [.int n_nodes, .ref n_kind, .ref n_pay, .ref n_name, .ref n_ways, .ref n_held, .ref n_targets, .ref n_weights])), (n_kind, .inl (g 0, 12, .inl n_fkind)), (n_pay, .inl (g 0, 12, .inl n_fpay)), (n_ways, .inl (g 0, 12, .inl n_fways)), (n_held, .inl (g 0, 12, .inl n_fheld)), (n_targets, .inl (g 0, 36, .inl n_ftargets)), (ow, .inr (10, [.ref ow_part, .long ovw_111844])), (ow_part, .inl (g 1, 12, .inr (.inl ovp_111845))), (sv_keep, .inl (g 0, 12, .inl okp_111850)), (oc_plan, .inl (g 0, 12, .inl opl_111851))]) hP hD [6, 8, 9, 10, 11, 12, 13, 28, 29, 1, 27] [0, 2, 3, 4, 5, 7, 14, 15, 16, 17, 18, 19, 20, 21, 22, 23, 24, 25, 26] rfl rfl (by decide) (by decide) hk1 hFc hP1 hD1
    generalize H1 = H at hP hS ⊢
    have hP : va_P D vwCl ((oc, .inr (3, [.ref n, .ref sv, .ref oc_plan, .ref ow, .ref ol, .ref oc_reach, .ref oc_ringBits, .int orc, .int orn, .int ose])) :: (oc_reach, .inl (g 0, 12, .inl orf)) :: (oc_ringBits, .inl (g 0, 12, .inl obf)) :: (ol, .inr (10, [.ref ol_part, .long olw])) :: (ol_part, .inl (g 1, 12, .inr (.inl olp))) :: (co, .inr (0, [.ref n, .ref eq, .ref co_place])) :: (n_weights, .inl (g 0, 36, .inl n_fweights)) :: (co_place, .inl (g 0, 12, .inl opc_111840)) :: (eq, .inr (1, [.ref eq_rows, .ref eq_right, .long oew_111841])) :: (eq_right, .inl (g 1, 8, .inr (.inl ofr_111842))) :: (eq_rows, .inl (g 5, 8, .inr (.inr (.inr (.inr (fun i => if i < 8 then some (rr i) else none)))))) :: ((rr 0), .inl (g 1, 8, .inr (.inl (oct_111846 0)))) :: ((rr 1), .inl (g 1, 8, .inr (.inl (oct_111846 1)))) :: ((rr 2), .inl (g 1, 8, .inr (.inl (oct_111846 2)))) :: ((rr 3), .inl (g 1, 8, .inr (.inl (oct_111846 3)))) :: ((rr 4), .inl (g 1, 8, .inr (.inl (oct_111846 4)))) :: ((rr 5), .inl (g 1, 8, .inr (.inl (oct_111846 5)))) :: ((rr 6), .inl (g 1, 8, .inr (.inl (oct_111846 6)))) :: ((rr 7), .inl (g 1, 8, .inr (.inl (oct_111846 7)))) :: (sv, .inr (6, [.ref n, .ref co, .ref sv_keep, .ref sv_scaled])) :: (n, .inr (2, [.int n_nodes, .ref n_kind, .ref n_pay, .ref n_name, .ref n_ways, .ref n_held, .ref n_targets, .ref n_weights])) :: (n_kind, .inl (g 0, 12, .inl n_fkind)) :: (n_pay, .inl (g 0, 12, .inl n_fpay)) :: (n_ways, .inl (g 0, 12, .inl n_fways)) :: (n_held, .inl (g 0, 12, .inl n_fheld)) :: (n_targets, .inl (g 0, 36, .inl n_ftargets)) :: (ow, .inr (10, [.ref ow_part, .long ovw_111844])) :: (ow_part, .inl (g 1, 12, .inr (.inl ovp_111845))) :: (sv_keep, .inl (g 0, 12, .inl okp_111850)) :: (oc_plan, .inl (g 0, 12, .inl opl_111851)) :: []) H := hP
    have hD : va_D A ((oc, .inr (3, [.ref n, .ref sv, .ref oc_plan, .ref ow, .ref ol, .ref oc_reach, .ref oc_ringBits, .int orc, .int orn, .int ose])) :: (oc_reach, .inl (g 0, 12, .inl orf)) :: (oc_ringBits, .inl (g 0, 12, .inl obf)) :: (ol, .inr (10, [.ref ol_part, .long olw])) :: (ol_part, .inl (g 1, 12, .inr (.inl olp))) :: (co, .inr (0, [.ref n, .ref eq, .ref co_place])) :: (n_weights, .inl (g 0, 36, .inl n_fweights)) :: (co_place, .inl (g 0, 12, .inl opc_111840)) :: (eq, .inr (1, [.ref eq_rows, .ref eq_right, .long oew_111841])) :: (eq_right, .inl (g 1, 8, .inr (.inl ofr_111842))) :: (eq_rows, .inl (g 5, 8, .inr (.inr (.inr (.inr (fun i => if i < 8 then some (rr i) else none)))))) :: ((rr 0), .inl (g 1, 8, .inr (.inl (oct_111846 0)))) :: ((rr 1), .inl (g 1, 8, .inr (.inl (oct_111846 1)))) :: ((rr 2), .inl (g 1, 8, .inr (.inl (oct_111846 2)))) :: ((rr 3), .inl (g 1, 8, .inr (.inl (oct_111846 3)))) :: ((rr 4), .inl (g 1, 8, .inr (.inl (oct_111846 4)))) :: ((rr 5), .inl (g 1, 8, .inr (.inl (oct_111846 5)))) :: ((rr 6), .inl (g 1, 8, .inr (.inl (oct_111846 6)))) :: ((rr 7), .inl (g 1, 8, .inr (.inl (oct_111846 7)))) :: (sv, .inr (6, [.ref n, .ref co, .ref sv_keep, .ref sv_scaled])) :: (n, .inr (2, [.int n_nodes, .ref n_kind, .ref n_pay, .ref n_name, .ref n_ways, .ref n_held, .ref n_targets, .ref n_weights])) :: (n_kind, .inl (g 0, 12, .inl n_fkind)) :: (n_pay, .inl (g 0, 12, .inl n_fpay)) :: (n_ways, .inl (g 0, 12, .inl n_fways)) :: (n_held, .inl (g 0, 12, .inl n_fheld)) :: (n_targets, .inl (g 0, 36, .inl n_ftargets)) :: (ow, .inr (10, [.ref ow_part, .long ovw_111844])) :: (ow_part, .inl (g 1, 12, .inr (.inl ovp_111845))) :: (sv_keep, .inl (g 0, 12, .inl okp_111850)) :: (oc_plan, .inl (g 0, 12, .inl opl_111851)) :: []) := hD
    refine lv_aload_n hx hb dX3_settle_51 rfl (lv_at hl 0 rfl) ?_
    have hPc := hP.sub (ws' := [(oc, .inr (3, [.ref n, .ref sv, .ref oc_plan, .ref ow, .ref ol, .ref oc_reach, .ref oc_ringBits, .int orc, .int orn, .int ose])), (sv, .inr (6, [.ref n, .ref co, .ref sv_keep, .ref sv_scaled])), (co, .inr (0, [.ref n, .ref eq, .ref co_place])), (n, .inr (2, [.int n_nodes, .ref n_kind, .ref n_pay, .ref n_name, .ref n_ways, .ref n_held, .ref n_targets, .ref n_weights])), (n_kind, .inl (g 0, 12, .inl n_fkind)), (n_ways, .inl (g 0, 12, .inl n_fways)), (n_targets, .inl (g 0, 36, .inl n_ftargets)), (n_weights, .inl (g 0, 36, .inl n_fweights)), (oc_plan, .inl (g 0, 12, .inl opl_111851)), (oc_reach, .inl (g 0, 12, .inl orf))]) [0, 19, 5, 20, 21, 23, 25, 6, 29, 1] rfl
    have hDc := hD.sub (ws' := [(oc, .inr (3, [.ref n, .ref sv, .ref oc_plan, .ref ow, .ref ol, .ref oc_reach, .ref oc_ringBits, .int orc, .int orn, .int ose])), (sv, .inr (6, [.ref n, .ref co, .ref sv_keep, .ref sv_scaled])), (co, .inr (0, [.ref n, .ref eq, .ref co_place])), (n, .inr (2, [.int n_nodes, .ref n_kind, .ref n_pay, .ref n_name, .ref n_ways, .ref n_held, .ref n_targets, .ref n_weights])), (n_kind, .inl (g 0, 12, .inl n_fkind)), (n_ways, .inl (g 0, 12, .inl n_fways)), (n_targets, .inl (g 0, 36, .inl n_ftargets)), (n_weights, .inl (g 0, 36, .inl n_fweights)), (oc_plan, .inl (g 0, 12, .inl opl_111851)), (oc_reach, .inl (g 0, 12, .inl orf))]) [0, 19, 5, 20, 21, 23, 25, 6, 29, 1] (by decide) rfl
    have hFc := va_free (wc := [(oc, .inr (3, [.ref n, .ref sv, .ref oc_plan, .ref ow, .ref ol, .ref oc_reach, .ref oc_ringBits, .int orc, .int orn, .int ose])), (sv, .inr (6, [.ref n, .ref co, .ref sv_keep, .ref sv_scaled])), (co, .inr (0, [.ref n, .ref eq, .ref co_place])), (n, .inr (2, [.int n_nodes, .ref n_kind, .ref n_pay, .ref n_name, .ref n_ways, .ref n_held, .ref n_targets, .ref n_weights])), (n_kind, .inl (g 0, 12, .inl n_fkind)), (n_ways, .inl (g 0, 12, .inl n_fways)), (n_targets, .inl (g 0, 36, .inl n_ftargets)), (n_weights, .inl (g 0, 36, .inl n_fweights)), (oc_plan, .inl (g 0, 12, .inl opl_111851)), (oc_reach, .inl (g 0, 12, .inl orf))]) hD hS hA [0, 19, 5, 20, 21, 23, 25, 6, 29, 1] rfl
    refine va_callv (va_runV (As := []) (rest := []) ⟨hx, hb, hml, hown, hts⟩ (c_X3_findReach l D g H.size oc n sv oc_plan ow ol oc_reach oc_ringBits orc orn ose co sv_keep sv_scaled eq co_place n_nodes n_kind n_pay n_name n_ways n_held n_targets n_weights n_fkind n_fways n_ftargets n_fweights opl_111851 orf (tr_w h_orc (by decide) (by decide)) (tr_w h_111834 (by decide) (by decide)) (tr_w h_n_nodes (by decide) (by decide)) (tr_wa h_n_fkind (by decide) (by decide)) (tr_wa h_n_fways (by decide) (by decide)) (tr_wa h_n_ftargets (by decide) (by decide)) (tr_wa hf_111852 (by decide) (by decide))) (cwV 0 hts (tz_gV qw_680 qw_681 qw_682 qw_649 qw_683) rfl rfl rfl (by decide +kernel) ⟨Nat.le_of_ble_eq_true rfl, Nat.le_of_ble_eq_true rfl⟩) ⟨tz_blQ, va_recv hK hPc (ci := 3) (q0 := 0) rfl rfl, tz_preQ hPc hK hDc⟩ rfl rfl hl.1 rfl (lv_room (Nat.le_of_ble_eq_true rfl)) dX3_settle_52 ⟨Nat.le_of_ble_eq_true rfl, Nat.le_of_ble_eq_true rfl⟩) hS (fun q _ h => hFc q h) hFc (fun u t H1 locs ht hvm hw hB hz1 hk1 hS => ?_)
    obtain ⟨xrf_111854, hP1, hD1⟩ := hB
    rw [ht] at hP1
    obtain ⟨hP, hD⟩ := va_join (wr := [(oc_ringBits, .inl (g 0, 12, .inl obf)), (ol, .inr (10, [.ref ol_part, .long olw])), (ol_part, .inl (g 1, 12, .inr (.inl olp))), (co_place, .inl (g 0, 12, .inl opc_111840)), (eq, .inr (1, [.ref eq_rows, .ref eq_right, .long oew_111841])), (eq_right, .inl (g 1, 8, .inr (.inl ofr_111842))), (eq_rows, .inl (g 5, 8, .inr (.inr (.inr (.inr (fun i => if i < 8 then some (rr i) else none)))))), ((rr 0), .inl (g 1, 8, .inr (.inl (oct_111846 0)))), ((rr 1), .inl (g 1, 8, .inr (.inl (oct_111846 1)))), ((rr 2), .inl (g 1, 8, .inr (.inl (oct_111846 2)))), ((rr 3), .inl (g 1, 8, .inr (.inl (oct_111846 3)))), ((rr 4), .inl (g 1, 8, .inr (.inl (oct_111846 4)))), ((rr 5), .inl (g 1, 8, .inr (.inl (oct_111846 5)))), ((rr 6), .inl (g 1, 8, .inr (.inl (oct_111846 6)))), ((rr 7), .inl (g 1, 8, .inr (.inl (oct_111846 7)))), (n_pay, .inl (g 0, 12, .inl n_fpay)), (n_held, .inl (g 0, 12, .inl n_fheld)), (ow, .inr (10, [.ref ow_part, .long ovw_111844])), (ow_part, .inl (g 1, 12, .inr (.inl ovp_111845))), (sv_keep, .inl (g 0, 12, .inl okp_111850))]) (w1 := [(oc, .inr (3, [.ref n, .ref sv, .ref oc_plan, .ref ow, .ref ol, .ref oc_reach, .ref oc_ringBits, .int orc, .int orn, .int ose])), (sv, .inr (6, [.ref n, .ref co, .ref sv_keep, .ref sv_scaled])), (co, .inr (0, [.ref n, .ref eq, .ref co_place])), (n, .inr (2, [.int n_nodes, .ref n_kind, .ref n_pay, .ref n_name, .ref n_ways, .ref n_held, .ref n_targets, .ref n_weights])), (n_kind, .inl (g 0, 12, .inl n_fkind)), (n_ways, .inl (g 0, 12, .inl n_fways)), (n_targets, .inl (g 0, 36, .inl n_ftargets)), (n_weights, .inl (g 0, 36, .inl n_fweights)), (oc_plan, .inl (g 0, 12, .inl opl_111851)), (oc_reach, .inl (g 0, 12, .inl xrf_111854))]) hP hD [0, 19, 5, 20, 21, 23, 25, 6, 29, 1] [2, 3, 4, 7, 8, 9, 10, 11, 12, 13, 14, 15, 16, 17, 18, 22, 24, 26, 27, 28] rfl rfl (by decide) (by decide) hk1 hFc hP1 hD1
    generalize H1 = H at hP hS ⊢
    have hP : va_P D vwCl ((oc_ringBits, .inl (g 0, 12, .inl obf)) :: (ol, .inr (10, [.ref ol_part, .long olw])) :: (ol_part, .inl (g 1, 12, .inr (.inl olp))) :: (co_place, .inl (g 0, 12, .inl opc_111840)) :: (eq, .inr (1, [.ref eq_rows, .ref eq_right, .long oew_111841])) :: (eq_right, .inl (g 1, 8, .inr (.inl ofr_111842))) :: (eq_rows, .inl (g 5, 8, .inr (.inr (.inr (.inr (fun i => if i < 8 then some (rr i) else none)))))) :: ((rr 0), .inl (g 1, 8, .inr (.inl (oct_111846 0)))) :: ((rr 1), .inl (g 1, 8, .inr (.inl (oct_111846 1)))) :: ((rr 2), .inl (g 1, 8, .inr (.inl (oct_111846 2)))) :: ((rr 3), .inl (g 1, 8, .inr (.inl (oct_111846 3)))) :: ((rr 4), .inl (g 1, 8, .inr (.inl (oct_111846 4)))) :: ((rr 5), .inl (g 1, 8, .inr (.inl (oct_111846 5)))) :: ((rr 6), .inl (g 1, 8, .inr (.inl (oct_111846 6)))) :: ((rr 7), .inl (g 1, 8, .inr (.inl (oct_111846 7)))) :: (n_pay, .inl (g 0, 12, .inl n_fpay)) :: (n_held, .inl (g 0, 12, .inl n_fheld)) :: (ow, .inr (10, [.ref ow_part, .long ovw_111844])) :: (ow_part, .inl (g 1, 12, .inr (.inl ovp_111845))) :: (sv_keep, .inl (g 0, 12, .inl okp_111850)) :: (oc, .inr (3, [.ref n, .ref sv, .ref oc_plan, .ref ow, .ref ol, .ref oc_reach, .ref oc_ringBits, .int orc, .int orn, .int ose])) :: (sv, .inr (6, [.ref n, .ref co, .ref sv_keep, .ref sv_scaled])) :: (co, .inr (0, [.ref n, .ref eq, .ref co_place])) :: (n, .inr (2, [.int n_nodes, .ref n_kind, .ref n_pay, .ref n_name, .ref n_ways, .ref n_held, .ref n_targets, .ref n_weights])) :: (n_kind, .inl (g 0, 12, .inl n_fkind)) :: (n_ways, .inl (g 0, 12, .inl n_fways)) :: (n_targets, .inl (g 0, 36, .inl n_ftargets)) :: (n_weights, .inl (g 0, 36, .inl n_fweights)) :: (oc_plan, .inl (g 0, 12, .inl opl_111851)) :: (oc_reach, .inl (g 0, 12, .inl xrf_111854)) :: []) H := hP
    have hD : va_D A ((oc_ringBits, .inl (g 0, 12, .inl obf)) :: (ol, .inr (10, [.ref ol_part, .long olw])) :: (ol_part, .inl (g 1, 12, .inr (.inl olp))) :: (co_place, .inl (g 0, 12, .inl opc_111840)) :: (eq, .inr (1, [.ref eq_rows, .ref eq_right, .long oew_111841])) :: (eq_right, .inl (g 1, 8, .inr (.inl ofr_111842))) :: (eq_rows, .inl (g 5, 8, .inr (.inr (.inr (.inr (fun i => if i < 8 then some (rr i) else none)))))) :: ((rr 0), .inl (g 1, 8, .inr (.inl (oct_111846 0)))) :: ((rr 1), .inl (g 1, 8, .inr (.inl (oct_111846 1)))) :: ((rr 2), .inl (g 1, 8, .inr (.inl (oct_111846 2)))) :: ((rr 3), .inl (g 1, 8, .inr (.inl (oct_111846 3)))) :: ((rr 4), .inl (g 1, 8, .inr (.inl (oct_111846 4)))) :: ((rr 5), .inl (g 1, 8, .inr (.inl (oct_111846 5)))) :: ((rr 6), .inl (g 1, 8, .inr (.inl (oct_111846 6)))) :: ((rr 7), .inl (g 1, 8, .inr (.inl (oct_111846 7)))) :: (n_pay, .inl (g 0, 12, .inl n_fpay)) :: (n_held, .inl (g 0, 12, .inl n_fheld)) :: (ow, .inr (10, [.ref ow_part, .long ovw_111844])) :: (ow_part, .inl (g 1, 12, .inr (.inl ovp_111845))) :: (sv_keep, .inl (g 0, 12, .inl okp_111850)) :: (oc, .inr (3, [.ref n, .ref sv, .ref oc_plan, .ref ow, .ref ol, .ref oc_reach, .ref oc_ringBits, .int orc, .int orn, .int ose])) :: (sv, .inr (6, [.ref n, .ref co, .ref sv_keep, .ref sv_scaled])) :: (co, .inr (0, [.ref n, .ref eq, .ref co_place])) :: (n, .inr (2, [.int n_nodes, .ref n_kind, .ref n_pay, .ref n_name, .ref n_ways, .ref n_held, .ref n_targets, .ref n_weights])) :: (n_kind, .inl (g 0, 12, .inl n_fkind)) :: (n_ways, .inl (g 0, 12, .inl n_fways)) :: (n_targets, .inl (g 0, 36, .inl n_ftargets)) :: (n_weights, .inl (g 0, 36, .inl n_fweights)) :: (oc_plan, .inl (g 0, 12, .inl opl_111851)) :: (oc_reach, .inl (g 0, 12, .inl xrf_111854)) :: []) := hD
    refine lv_aload_n hx hb dX3_settle_55 rfl (lv_at hl 0 rfl) ?_
    have hPc := hP.sub (ws' := [(oc, .inr (3, [.ref n, .ref sv, .ref oc_plan, .ref ow, .ref ol, .ref oc_reach, .ref oc_ringBits, .int orc, .int orn, .int ose])), (n, .inr (2, [.int n_nodes, .ref n_kind, .ref n_pay, .ref n_name, .ref n_ways, .ref n_held, .ref n_targets, .ref n_weights])), (n_kind, .inl (g 0, 12, .inl n_fkind)), (oc_reach, .inl (g 0, 12, .inl xrf_111854)), (oc_ringBits, .inl (g 0, 12, .inl obf))]) [20, 23, 24, 29, 0] rfl
    have hDc := hD.sub (ws' := [(oc, .inr (3, [.ref n, .ref sv, .ref oc_plan, .ref ow, .ref ol, .ref oc_reach, .ref oc_ringBits, .int orc, .int orn, .int ose])), (n, .inr (2, [.int n_nodes, .ref n_kind, .ref n_pay, .ref n_name, .ref n_ways, .ref n_held, .ref n_targets, .ref n_weights])), (n_kind, .inl (g 0, 12, .inl n_fkind)), (oc_reach, .inl (g 0, 12, .inl xrf_111854)), (oc_ringBits, .inl (g 0, 12, .inl obf))]) [20, 23, 24, 29, 0] (by decide) rfl
    have hFc := va_free (wc := [(oc, .inr (3, [.ref n, .ref sv, .ref oc_plan, .ref ow, .ref ol, .ref oc_reach, .ref oc_ringBits, .int orc, .int orn, .int ose])), (n, .inr (2, [.int n_nodes, .ref n_kind, .ref n_pay, .ref n_name, .ref n_ways, .ref n_held, .ref n_targets, .ref n_weights])), (n_kind, .inl (g 0, 12, .inl n_fkind)), (oc_reach, .inl (g 0, 12, .inl xrf_111854)), (oc_ringBits, .inl (g 0, 12, .inl obf))]) hD hS hA [20, 23, 24, 29, 0] rfl
    refine va_callv (va_runV (As := []) (rest := []) ⟨hx, hb, hml, hown, hts⟩ (c_X3_findRings l D g H.size oc n sv oc_plan ow ol oc_reach oc_ringBits orc orn ose n_nodes n_kind n_pay n_name n_ways n_held n_targets n_weights n_fkind xrf_111854 obf (tr_w h_orc (by decide) (by decide)) (tr_w h_111834 (by decide) (by decide)) (tr_w h_n_nodes (by decide) (by decide)) (tr_wa h_n_fkind (by decide) (by decide))) (cwV 0 hts (tz_gV qw_684 qw_685 qw_686 qw_649 qw_687) rfl rfl rfl (by decide +kernel) ⟨Nat.le_of_ble_eq_true rfl, Nat.le_of_ble_eq_true rfl⟩) ⟨tz_blQ, va_recv hK hPc (ci := 3) (q0 := 0) rfl rfl, tz_preQ hPc hK hDc⟩ rfl rfl hl.1 rfl (lv_room (Nat.le_of_ble_eq_true rfl)) dX3_settle_56 ⟨Nat.le_of_ble_eq_true rfl, Nat.le_of_ble_eq_true rfl⟩) hS (fun q _ h => hFc q h) hFc (fun u t H1 locs ht hvm hw hB hz1 hk1 hS => ?_)
    obtain ⟨xrc_111856, xrn_111857, xbf_111858, hf_111859, hP1, hD1⟩ := hB
    rw [ht] at hP1
    obtain ⟨hP, hD⟩ := va_join (wr := [(ol, .inr (10, [.ref ol_part, .long olw])), (ol_part, .inl (g 1, 12, .inr (.inl olp))), (co_place, .inl (g 0, 12, .inl opc_111840)), (eq, .inr (1, [.ref eq_rows, .ref eq_right, .long oew_111841])), (eq_right, .inl (g 1, 8, .inr (.inl ofr_111842))), (eq_rows, .inl (g 5, 8, .inr (.inr (.inr (.inr (fun i => if i < 8 then some (rr i) else none)))))), ((rr 0), .inl (g 1, 8, .inr (.inl (oct_111846 0)))), ((rr 1), .inl (g 1, 8, .inr (.inl (oct_111846 1)))), ((rr 2), .inl (g 1, 8, .inr (.inl (oct_111846 2)))), ((rr 3), .inl (g 1, 8, .inr (.inl (oct_111846 3)))), ((rr 4), .inl (g 1, 8, .inr (.inl (oct_111846 4)))), ((rr 5), .inl (g 1, 8, .inr (.inl (oct_111846 5)))), ((rr 6), .inl (g 1, 8, .inr (.inl (oct_111846 6)))), ((rr 7), .inl (g 1, 8, .inr (.inl (oct_111846 7)))), (n_pay, .inl (g 0, 12, .inl n_fpay)), (n_held, .inl (g 0, 12, .inl n_fheld)), (ow, .inr (10, [.ref ow_part, .long ovw_111844])), (ow_part, .inl (g 1, 12, .inr (.inl ovp_111845))), (sv_keep, .inl (g 0, 12, .inl okp_111850)), (sv, .inr (6, [.ref n, .ref co, .ref sv_keep, .ref sv_scaled])), (co, .inr (0, [.ref n, .ref eq, .ref co_place])), (n_ways, .inl (g 0, 12, .inl n_fways)), (n_targets, .inl (g 0, 36, .inl n_ftargets)), (n_weights, .inl (g 0, 36, .inl n_fweights)), (oc_plan, .inl (g 0, 12, .inl opl_111851))]) (w1 := [(oc, .inr (3, [.ref n, .ref sv, .ref oc_plan, .ref ow, .ref ol, .ref oc_reach, .ref oc_ringBits, .int xrc_111856, .int xrn_111857, .int ose])), (n, .inr (2, [.int n_nodes, .ref n_kind, .ref n_pay, .ref n_name, .ref n_ways, .ref n_held, .ref n_targets, .ref n_weights])), (n_kind, .inl (g 0, 12, .inl n_fkind)), (oc_reach, .inl (g 0, 12, .inl xrf_111854)), (oc_ringBits, .inl (g 0, 12, .inl xbf_111858))]) hP hD [20, 23, 24, 29, 0] [1, 2, 3, 4, 5, 6, 7, 8, 9, 10, 11, 12, 13, 14, 15, 16, 17, 18, 19, 21, 22, 25, 26, 27, 28] rfl rfl (by decide) (by decide) hk1 hFc hP1 hD1
    generalize H1 = H at hP hS ⊢
    have hP : va_P D vwCl ((ol, .inr (10, [.ref ol_part, .long olw])) :: (ol_part, .inl (g 1, 12, .inr (.inl olp))) :: (co_place, .inl (g 0, 12, .inl opc_111840)) :: (eq, .inr (1, [.ref eq_rows, .ref eq_right, .long oew_111841])) :: (eq_right, .inl (g 1, 8, .inr (.inl ofr_111842))) :: (eq_rows, .inl (g 5, 8, .inr (.inr (.inr (.inr (fun i => if i < 8 then some (rr i) else none)))))) :: ((rr 0), .inl (g 1, 8, .inr (.inl (oct_111846 0)))) :: ((rr 1), .inl (g 1, 8, .inr (.inl (oct_111846 1)))) :: ((rr 2), .inl (g 1, 8, .inr (.inl (oct_111846 2)))) :: ((rr 3), .inl (g 1, 8, .inr (.inl (oct_111846 3)))) :: ((rr 4), .inl (g 1, 8, .inr (.inl (oct_111846 4)))) :: ((rr 5), .inl (g 1, 8, .inr (.inl (oct_111846 5)))) :: ((rr 6), .inl (g 1, 8, .inr (.inl (oct_111846 6)))) :: ((rr 7), .inl (g 1, 8, .inr (.inl (oct_111846 7)))) :: (n_pay, .inl (g 0, 12, .inl n_fpay)) :: (n_held, .inl (g 0, 12, .inl n_fheld)) :: (ow, .inr (10, [.ref ow_part, .long ovw_111844])) :: (ow_part, .inl (g 1, 12, .inr (.inl ovp_111845))) :: (sv_keep, .inl (g 0, 12, .inl okp_111850)) :: (sv, .inr (6, [.ref n, .ref co, .ref sv_keep, .ref sv_scaled])) :: (co, .inr (0, [.ref n, .ref eq, .ref co_place])) :: (n_ways, .inl (g 0, 12, .inl n_fways)) :: (n_targets, .inl (g 0, 36, .inl n_ftargets)) :: (n_weights, .inl (g 0, 36, .inl n_fweights)) :: (oc_plan, .inl (g 0, 12, .inl opl_111851)) :: (oc, .inr (3, [.ref n, .ref sv, .ref oc_plan, .ref ow, .ref ol, .ref oc_reach, .ref oc_ringBits, .int xrc_111856, .int xrn_111857, .int ose])) :: (n, .inr (2, [.int n_nodes, .ref n_kind, .ref n_pay, .ref n_name, .ref n_ways, .ref n_held, .ref n_targets, .ref n_weights])) :: (n_kind, .inl (g 0, 12, .inl n_fkind)) :: (oc_reach, .inl (g 0, 12, .inl xrf_111854)) :: (oc_ringBits, .inl (g 0, 12, .inl xbf_111858)) :: []) H := hP
    have hD : va_D A ((ol, .inr (10, [.ref ol_part, .long olw])) :: (ol_part, .inl (g 1, 12, .inr (.inl olp))) :: (co_place, .inl (g 0, 12, .inl opc_111840)) :: (eq, .inr (1, [.ref eq_rows, .ref eq_right, .long oew_111841])) :: (eq_right, .inl (g 1, 8, .inr (.inl ofr_111842))) :: (eq_rows, .inl (g 5, 8, .inr (.inr (.inr (.inr (fun i => if i < 8 then some (rr i) else none)))))) :: ((rr 0), .inl (g 1, 8, .inr (.inl (oct_111846 0)))) :: ((rr 1), .inl (g 1, 8, .inr (.inl (oct_111846 1)))) :: ((rr 2), .inl (g 1, 8, .inr (.inl (oct_111846 2)))) :: ((rr 3), .inl (g 1, 8, .inr (.inl (oct_111846 3)))) :: ((rr 4), .inl (g 1, 8, .inr (.inl (oct_111846 4)))) :: ((rr 5), .inl (g 1, 8, .inr (.inl (oct_111846 5)))) :: ((rr 6), .inl (g 1, 8, .inr (.inl (oct_111846 6)))) :: ((rr 7), .inl (g 1, 8, .inr (.inl (oct_111846 7)))) :: (n_pay, .inl (g 0, 12, .inl n_fpay)) :: (n_held, .inl (g 0, 12, .inl n_fheld)) :: (ow, .inr (10, [.ref ow_part, .long ovw_111844])) :: (ow_part, .inl (g 1, 12, .inr (.inl ovp_111845))) :: (sv_keep, .inl (g 0, 12, .inl okp_111850)) :: (sv, .inr (6, [.ref n, .ref co, .ref sv_keep, .ref sv_scaled])) :: (co, .inr (0, [.ref n, .ref eq, .ref co_place])) :: (n_ways, .inl (g 0, 12, .inl n_fways)) :: (n_targets, .inl (g 0, 36, .inl n_ftargets)) :: (n_weights, .inl (g 0, 36, .inl n_fweights)) :: (oc_plan, .inl (g 0, 12, .inl opl_111851)) :: (oc, .inr (3, [.ref n, .ref sv, .ref oc_plan, .ref ow, .ref ol, .ref oc_reach, .ref oc_ringBits, .int xrc_111856, .int xrn_111857, .int ose])) :: (n, .inr (2, [.int n_nodes, .ref n_kind, .ref n_pay, .ref n_name, .ref n_ways, .ref n_held, .ref n_targets, .ref n_weights])) :: (n_kind, .inl (g 0, 12, .inl n_fkind)) :: (oc_reach, .inl (g 0, 12, .inl xrf_111854)) :: (oc_ringBits, .inl (g 0, 12, .inl xbf_111858)) :: []) := hD
    refine lv_iconst (v := 0) hx hb dX3_settle_59 (by decide) ?_
    refine lv_istore_n (lv' := [(1, .int 0), (0, .ref oc)]) hx hb dX3_settle_60 rfl hl (by decide) rfl (fun ls hl => ?_)
    refine lv_iconst (v := 0) hx hb dX3_settle_61 (by decide) ?_
    refine lv_istore_n (lv' := [(2, .int 0), (1, .int 0), (0, .ref oc)]) hx hb dX3_settle_62 rfl hl (by decide) rfl (fun ls hl => ?_)
    have lp_112032 : ∀ (n_112032 : Nat) (x_112030 : Int32) (x_112031 : Int32) (H : Heap) (locs : List Loc) (ls : Array Slot), (0 ≤ (x_112030 : Int32).toInt ∧ (x_112030 : Int32).toInt ≤ 12) → (12 - x_112030.toInt < (n_112032 : Int)) → va_P D vwCl ((ol, .inr (10, [.ref ol_part, .long olw])) :: (ol_part, .inl (g 1, 12, .inr (.inl olp))) :: (co_place, .inl (g 0, 12, .inl opc_111840)) :: (eq, .inr (1, [.ref eq_rows, .ref eq_right, .long oew_111841])) :: (eq_right, .inl (g 1, 8, .inr (.inl ofr_111842))) :: (eq_rows, .inl (g 5, 8, .inr (.inr (.inr (.inr (fun i => if i < 8 then some (rr i) else none)))))) :: ((rr 0), .inl (g 1, 8, .inr (.inl (oct_111846 0)))) :: ((rr 1), .inl (g 1, 8, .inr (.inl (oct_111846 1)))) :: ((rr 2), .inl (g 1, 8, .inr (.inl (oct_111846 2)))) :: ((rr 3), .inl (g 1, 8, .inr (.inl (oct_111846 3)))) :: ((rr 4), .inl (g 1, 8, .inr (.inl (oct_111846 4)))) :: ((rr 5), .inl (g 1, 8, .inr (.inl (oct_111846 5)))) :: ((rr 6), .inl (g 1, 8, .inr (.inl (oct_111846 6)))) :: ((rr 7), .inl (g 1, 8, .inr (.inl (oct_111846 7)))) :: (n_pay, .inl (g 0, 12, .inl n_fpay)) :: (n_held, .inl (g 0, 12, .inl n_fheld)) :: (ow, .inr (10, [.ref ow_part, .long ovw_111844])) :: (ow_part, .inl (g 1, 12, .inr (.inl ovp_111845))) :: (sv_keep, .inl (g 0, 12, .inl okp_111850)) :: (sv, .inr (6, [.ref n, .ref co, .ref sv_keep, .ref sv_scaled])) :: (co, .inr (0, [.ref n, .ref eq, .ref co_place])) :: (n_ways, .inl (g 0, 12, .inl n_fways)) :: (n_targets, .inl (g 0, 36, .inl n_ftargets)) :: (n_weights, .inl (g 0, 36, .inl n_fweights)) :: (oc_plan, .inl (g 0, 12, .inl opl_111851)) :: (oc, .inr (3, [.ref n, .ref sv, .ref oc_plan, .ref ow, .ref ol, .ref oc_reach, .ref oc_ringBits, .int xrc_111856, .int xrn_111857, .int ose])) :: (n, .inr (2, [.int n_nodes, .ref n_kind, .ref n_pay, .ref n_name, .ref n_ways, .ref n_held, .ref n_targets, .ref n_weights])) :: (n_kind, .inl (g 0, 12, .inl n_fkind)) :: (oc_reach, .inl (g 0, 12, .inl xrf_111854)) :: (oc_ringBits, .inl (g 0, 12, .inl xbf_111858)) :: []) H → va_D A ((ol, .inr (10, [.ref ol_part, .long olw])) :: (ol_part, .inl (g 1, 12, .inr (.inl olp))) :: (co_place, .inl (g 0, 12, .inl opc_111840)) :: (eq, .inr (1, [.ref eq_rows, .ref eq_right, .long oew_111841])) :: (eq_right, .inl (g 1, 8, .inr (.inl ofr_111842))) :: (eq_rows, .inl (g 5, 8, .inr (.inr (.inr (.inr (fun i => if i < 8 then some (rr i) else none)))))) :: ((rr 0), .inl (g 1, 8, .inr (.inl (oct_111846 0)))) :: ((rr 1), .inl (g 1, 8, .inr (.inl (oct_111846 1)))) :: ((rr 2), .inl (g 1, 8, .inr (.inl (oct_111846 2)))) :: ((rr 3), .inl (g 1, 8, .inr (.inl (oct_111846 3)))) :: ((rr 4), .inl (g 1, 8, .inr (.inl (oct_111846 4)))) :: ((rr 5), .inl (g 1, 8, .inr (.inl (oct_111846 5)))) :: ((rr 6), .inl (g 1, 8, .inr (.inl (oct_111846 6)))) :: ((rr 7), .inl (g 1, 8, .inr (.inl (oct_111846 7)))) :: (n_pay, .inl (g 0, 12, .inl n_fpay)) :: (n_held, .inl (g 0, 12, .inl n_fheld)) :: (ow, .inr (10, [.ref ow_part, .long ovw_111844])) :: (ow_part, .inl (g 1, 12, .inr (.inl ovp_111845))) :: (sv_keep, .inl (g 0, 12, .inl okp_111850)) :: (sv, .inr (6, [.ref n, .ref co, .ref sv_keep, .ref sv_scaled])) :: (co, .inr (0, [.ref n, .ref eq, .ref co_place])) :: (n_ways, .inl (g 0, 12, .inl n_fways)) :: (n_targets, .inl (g 0, 36, .inl n_ftargets)) :: (n_weights, .inl (g 0, 36, .inl n_fweights)) :: (oc_plan, .inl (g 0, 12, .inl opl_111851)) :: (oc, .inr (3, [.ref n, .ref sv, .ref oc_plan, .ref ow, .ref ol, .ref oc_reach, .ref oc_ringBits, .int xrc_111856, .int xrn_111857, .int ose])) :: (n, .inr (2, [.int n_nodes, .ref n_kind, .ref n_pay, .ref n_name, .ref n_ways, .ref n_held, .ref n_targets, .ref n_weights])) :: (n_kind, .inl (g 0, 12, .inl n_fkind)) :: (oc_reach, .inl (g 0, 12, .inl xrf_111854)) :: (oc_ringBits, .inl (g 0, 12, .inl xbf_111858)) :: []) → va_S A s.heap H locs → lv_has ls 3 [(2, .int x_112030), (1, .int x_112031), (0, .ref oc)] → W p l e (headSpec (.code yX3_settle cX3_settle 3 none :: wsL_law) ({ frames := 6, cells := 0, slots := 0, locals := 158 })).room s m args below meth c H locs 0 0 (MQ below (va_Qv (fun (_ : Unit) => True) (fun _ t => ∃ xrc : Int32, ∃ xrn : Int32, ∃ xse : Int32, ∃ opc : Nat → Int32, ∃ oew : Int64, ∃ ofr : Nat → Int64, ∃ okp : Nat → Int32, ∃ xpf : Nat → Int32, ∃ xrf : Nat → Int32, ∃ xbf : Nat → Int32, ∃ xow : Int64, ∃ xowp : Nat → Int64, ∃ xol : Int64, ∃ xolp : Nat → Int64, ∃ oct : Nat → Nat → Int64, (0 ≤ (xrc : Int32).toInt ∧ (xrc : Int32).toInt ≤ 12) ∧ (0 ≤ (xse : Int32).toInt ∧ (xse : Int32).toInt ≤ 1) ∧ (∀ j : Nat, (-1) ≤ (opc j).toInt ∧ (opc j).toInt ≤ 7) ∧ (∀ j : Nat, 0 ≤ (xpf j).toInt ∧ (xpf j).toInt ≤ 2) ∧ va_P D vwCl ((oc, .inr (3, [.ref n, .ref sv, .ref oc_plan, .ref ow, .ref ol, .ref oc_reach, .ref oc_ringBits, .int xrc, .int xrn, .int xse])) :: (sv, .inr (6, [.ref n, .ref co, .ref sv_keep, .ref sv_scaled])) :: (co, .inr (0, [.ref n, .ref eq, .ref co_place])) :: (n, .inr (2, [.int n_nodes, .ref n_kind, .ref n_pay, .ref n_name, .ref n_ways, .ref n_held, .ref n_targets, .ref n_weights])) :: (n_kind, .inl (g 0, 12, .inl n_fkind)) :: (n_pay, .inl (g 0, 12, .inl n_fpay)) :: (n_ways, .inl (g 0, 12, .inl n_fways)) :: (n_held, .inl (g 0, 12, .inl n_fheld)) :: (n_targets, .inl (g 0, 36, .inl n_ftargets)) :: (n_weights, .inl (g 0, 36, .inl n_fweights)) :: (co_place, .inl (g 0, 12, .inl opc)) :: (eq, .inr (1, [.ref eq_rows, .ref eq_right, .long oew])) :: (eq_right, .inl (g 1, 8, .inr (.inl ofr))) :: (eq_rows, .inl (g 5, 8, .inr (.inr (.inr (.inr (fun i => if i < 8 then some (rr i) else none)))))) :: ((rr 0), .inl (g 1, 8, .inr (.inl (oct 0)))) :: ((rr 1), .inl (g 1, 8, .inr (.inl (oct 1)))) :: ((rr 2), .inl (g 1, 8, .inr (.inl (oct 2)))) :: ((rr 3), .inl (g 1, 8, .inr (.inl (oct 3)))) :: ((rr 4), .inl (g 1, 8, .inr (.inl (oct 4)))) :: ((rr 5), .inl (g 1, 8, .inr (.inl (oct 5)))) :: ((rr 6), .inl (g 1, 8, .inr (.inl (oct 6)))) :: ((rr 7), .inl (g 1, 8, .inr (.inl (oct 7)))) :: (sv_keep, .inl (g 0, 12, .inl okp)) :: (oc_plan, .inl (g 0, 12, .inl xpf)) :: (oc_reach, .inl (g 0, 12, .inl xrf)) :: (oc_ringBits, .inl (g 0, 12, .inl xbf)) :: (ow, .inr (10, [.ref ow_part, .long xow])) :: (ow_part, .inl (g 1, 12, .inr (.inl xowp))) :: (ol, .inr (10, [.ref ol_part, .long xol])) :: (ol_part, .inl (g 1, 12, .inr (.inl xolp))) :: []) t.heap ∧ va_D A ((oc, .inr (3, [.ref n, .ref sv, .ref oc_plan, .ref ow, .ref ol, .ref oc_reach, .ref oc_ringBits, .int xrc, .int xrn, .int xse])) :: (sv, .inr (6, [.ref n, .ref co, .ref sv_keep, .ref sv_scaled])) :: (co, .inr (0, [.ref n, .ref eq, .ref co_place])) :: (n, .inr (2, [.int n_nodes, .ref n_kind, .ref n_pay, .ref n_name, .ref n_ways, .ref n_held, .ref n_targets, .ref n_weights])) :: (n_kind, .inl (g 0, 12, .inl n_fkind)) :: (n_pay, .inl (g 0, 12, .inl n_fpay)) :: (n_ways, .inl (g 0, 12, .inl n_fways)) :: (n_held, .inl (g 0, 12, .inl n_fheld)) :: (n_targets, .inl (g 0, 36, .inl n_ftargets)) :: (n_weights, .inl (g 0, 36, .inl n_fweights)) :: (co_place, .inl (g 0, 12, .inl opc)) :: (eq, .inr (1, [.ref eq_rows, .ref eq_right, .long oew])) :: (eq_right, .inl (g 1, 8, .inr (.inl ofr))) :: (eq_rows, .inl (g 5, 8, .inr (.inr (.inr (.inr (fun i => if i < 8 then some (rr i) else none)))))) :: ((rr 0), .inl (g 1, 8, .inr (.inl (oct 0)))) :: ((rr 1), .inl (g 1, 8, .inr (.inl (oct 1)))) :: ((rr 2), .inl (g 1, 8, .inr (.inl (oct 2)))) :: ((rr 3), .inl (g 1, 8, .inr (.inl (oct 3)))) :: ((rr 4), .inl (g 1, 8, .inr (.inl (oct 4)))) :: ((rr 5), .inl (g 1, 8, .inr (.inl (oct 5)))) :: ((rr 6), .inl (g 1, 8, .inr (.inl (oct 6)))) :: ((rr 7), .inl (g 1, 8, .inr (.inl (oct 7)))) :: (sv_keep, .inl (g 0, 12, .inl okp)) :: (oc_plan, .inl (g 0, 12, .inl xpf)) :: (oc_reach, .inl (g 0, 12, .inl xrf)) :: (oc_ringBits, .inl (g 0, 12, .inl xbf)) :: (ow, .inr (10, [.ref ow_part, .long xow])) :: (ow_part, .inl (g 1, 12, .inr (.inl xowp))) :: (ol, .inr (10, [.ref ol_part, .long xol])) :: (ol_part, .inl (g 1, 12, .inr (.inl xolp))) :: [])) A) args s 0 0 A) (F0 m 63 ls []) := by
      intro n_112032
      induction n_112032 with
      | zero =>
        intro x_112030 x_112031 H locs ls h_x_112030 hm_112032 hP hD hS hl
        exfalso; omega
      | succ n_112032 ih_112032 =>
        intro x_112030 x_112031 H locs ls h_x_112030 hm_112032 hP hD hS hl
        refine lv_iload_n hx hb dX3_settle_63 rfl (lv_at hl 0 rfl) ?_
        refine lv_aload_n hx hb dX3_settle_64 rfl (lv_at hl 2 rfl) ?_
        refine va_get (D := D) (ci := 3) (v := .ref n) (C := RX3) (T := TX3) (N := 10) hx hb hts inlX3 hown hK hP 25 rfl rfl 0 (by decide) (hts (Cond.fieldLink RX3 31 "ChanceRings$Outcome" "net" "LChanceRings$Net;") qw_636) (fun _ h9 => h9) rfl dX3_settle_65 ?_
        refine va_get (D := D) (ci := 2) (v := .int n_nodes) (C := RX2) (T := TX2) (N := 8) hx hb hts inlX2 hown hK hP 26 rfl rfl 0 (by decide) (hts (Cond.fieldLink RX3 63 "ChanceRings$Net" "nodes" "I") qw_637) (fun _ h9 => h9) rfl dX3_settle_68 ?_
        refine lv_icmp_ge (tgt := 94) hx hb dX3_settle_71 (by decide) (fun c_112033 => ?_) (fun c_112033 => ?_)
        · skip
          refine lv_aload_n hx hb dX3_settle_94 rfl (lv_at hl 2 rfl) ?_
          refine va_get (D := D) (ci := 3) (v := .ref sv) (C := RX3) (T := TX3) (N := 10) hx hb hts inlX3 hown hK hP 25 rfl rfl 1 (by decide) (hts (Cond.fieldLink RX3 35 "ChanceRings$Outcome" "solver" "LChanceRings$Solver;") qw_639) (fun _ h9 => h9) rfl dX3_settle_95 ?_
          refine va_get (D := D) (ci := 6) (v := .ref co) (C := RX6) (T := TX6) (N := 4) hx hb hts inlX6 hown hK hP 19 rfl rfl 1 (by decide) (hts (Cond.fieldLink RX3 73 "ChanceRings$Solver" "course" "LChanceRings$Course;") qw_640) (fun _ h9 => h9) rfl dX3_settle_98 ?_
          refine lv_aload_n hx hb dX3_settle_101 rfl (lv_at hl 2 rfl) ?_
          refine va_get (D := D) (ci := 3) (v := .ref oc_plan) (C := RX3) (T := TX3) (N := 10) hx hb hts inlX3 hown hK hP 25 rfl rfl 2 (by decide) (hts (Cond.fieldLink RX3 9 "ChanceRings$Outcome" "plan" "[I") qw_641) (fun _ h9 => h9) rfl dX3_settle_102 ?_
          refine lv_iload_n hx hb dX3_settle_105 rfl (lv_at hl 1 rfl) ?_
          refine lv_aload_n hx hb dX3_settle_106 rfl (lv_at hl 2 rfl) ?_
          refine va_get (D := D) (ci := 3) (v := .ref ol) (C := RX3) (T := TX3) (N := 10) hx hb hts inlX3 hown hK hP 25 rfl rfl 4 (by decide) (hts (Cond.fieldLink RX3 22 "ChanceRings$Outcome" "length" "LChanceRings$Values;") qw_688) (fun _ h9 => h9) rfl dX3_settle_107 ?_
          have hPc := hP.sub (ws' := [(co, .inr (0, [.ref n, .ref eq, .ref co_place])), (n, .inr (2, [.int n_nodes, .ref n_kind, .ref n_pay, .ref n_name, .ref n_ways, .ref n_held, .ref n_targets, .ref n_weights])), (n_kind, .inl (g 0, 12, .inl n_fkind)), (n_pay, .inl (g 0, 12, .inl n_fpay)), (n_ways, .inl (g 0, 12, .inl n_fways)), (n_held, .inl (g 0, 12, .inl n_fheld)), (n_targets, .inl (g 0, 36, .inl n_ftargets)), (n_weights, .inl (g 0, 36, .inl n_fweights)), (co_place, .inl (g 0, 12, .inl opc_111840)), (eq, .inr (1, [.ref eq_rows, .ref eq_right, .long oew_111841])), (eq_right, .inl (g 1, 8, .inr (.inl ofr_111842))), (eq_rows, .inl (g 5, 8, .inr (.inr (.inr (.inr (fun i => if i < 8 then some (rr i) else none)))))), ((rr 0), .inl (g 1, 8, .inr (.inl (oct_111846 0)))), ((rr 1), .inl (g 1, 8, .inr (.inl (oct_111846 1)))), ((rr 2), .inl (g 1, 8, .inr (.inl (oct_111846 2)))), ((rr 3), .inl (g 1, 8, .inr (.inl (oct_111846 3)))), ((rr 4), .inl (g 1, 8, .inr (.inl (oct_111846 4)))), ((rr 5), .inl (g 1, 8, .inr (.inl (oct_111846 5)))), ((rr 6), .inl (g 1, 8, .inr (.inl (oct_111846 6)))), ((rr 7), .inl (g 1, 8, .inr (.inl (oct_111846 7)))), (oc_plan, .inl (g 0, 12, .inl opl_111851)), (ol, .inr (10, [.ref ol_part, .long olw])), (ol_part, .inl (g 1, 12, .inr (.inl olp)))]) [20, 26, 27, 14, 21, 15, 22, 23, 2, 3, 4, 5, 6, 7, 8, 9, 10, 11, 12, 13, 24, 0, 1] rfl
          have hDc := hD.sub (ws' := [(co, .inr (0, [.ref n, .ref eq, .ref co_place])), (n, .inr (2, [.int n_nodes, .ref n_kind, .ref n_pay, .ref n_name, .ref n_ways, .ref n_held, .ref n_targets, .ref n_weights])), (n_kind, .inl (g 0, 12, .inl n_fkind)), (n_pay, .inl (g 0, 12, .inl n_fpay)), (n_ways, .inl (g 0, 12, .inl n_fways)), (n_held, .inl (g 0, 12, .inl n_fheld)), (n_targets, .inl (g 0, 36, .inl n_ftargets)), (n_weights, .inl (g 0, 36, .inl n_fweights)), (co_place, .inl (g 0, 12, .inl opc_111840)), (eq, .inr (1, [.ref eq_rows, .ref eq_right, .long oew_111841])), (eq_right, .inl (g 1, 8, .inr (.inl ofr_111842))), (eq_rows, .inl (g 5, 8, .inr (.inr (.inr (.inr (fun i => if i < 8 then some (rr i) else none)))))), ((rr 0), .inl (g 1, 8, .inr (.inl (oct_111846 0)))), ((rr 1), .inl (g 1, 8, .inr (.inl (oct_111846 1)))), ((rr 2), .inl (g 1, 8, .inr (.inl (oct_111846 2)))), ((rr 3), .inl (g 1, 8, .inr (.inl (oct_111846 3)))), ((rr 4), .inl (g 1, 8, .inr (.inl (oct_111846 4)))), ((rr 5), .inl (g 1, 8, .inr (.inl (oct_111846 5)))), ((rr 6), .inl (g 1, 8, .inr (.inl (oct_111846 6)))), ((rr 7), .inl (g 1, 8, .inr (.inl (oct_111846 7)))), (oc_plan, .inl (g 0, 12, .inl opl_111851)), (ol, .inr (10, [.ref ol_part, .long olw])), (ol_part, .inl (g 1, 12, .inr (.inl olp)))]) [20, 26, 27, 14, 21, 15, 22, 23, 2, 3, 4, 5, 6, 7, 8, 9, 10, 11, 12, 13, 24, 0, 1] (by decide) rfl
          have hFc := va_free (wc := [(co, .inr (0, [.ref n, .ref eq, .ref co_place])), (n, .inr (2, [.int n_nodes, .ref n_kind, .ref n_pay, .ref n_name, .ref n_ways, .ref n_held, .ref n_targets, .ref n_weights])), (n_kind, .inl (g 0, 12, .inl n_fkind)), (n_pay, .inl (g 0, 12, .inl n_fpay)), (n_ways, .inl (g 0, 12, .inl n_fways)), (n_held, .inl (g 0, 12, .inl n_fheld)), (n_targets, .inl (g 0, 36, .inl n_ftargets)), (n_weights, .inl (g 0, 36, .inl n_fweights)), (co_place, .inl (g 0, 12, .inl opc_111840)), (eq, .inr (1, [.ref eq_rows, .ref eq_right, .long oew_111841])), (eq_right, .inl (g 1, 8, .inr (.inl ofr_111842))), (eq_rows, .inl (g 5, 8, .inr (.inr (.inr (.inr (fun i => if i < 8 then some (rr i) else none)))))), ((rr 0), .inl (g 1, 8, .inr (.inl (oct_111846 0)))), ((rr 1), .inl (g 1, 8, .inr (.inl (oct_111846 1)))), ((rr 2), .inl (g 1, 8, .inr (.inl (oct_111846 2)))), ((rr 3), .inl (g 1, 8, .inr (.inl (oct_111846 3)))), ((rr 4), .inl (g 1, 8, .inr (.inl (oct_111846 4)))), ((rr 5), .inl (g 1, 8, .inr (.inl (oct_111846 5)))), ((rr 6), .inl (g 1, 8, .inr (.inl (oct_111846 6)))), ((rr 7), .inl (g 1, 8, .inr (.inl (oct_111846 7)))), (oc_plan, .inl (g 0, 12, .inl opl_111851)), (ol, .inr (10, [.ref ol_part, .long olw])), (ol_part, .inl (g 1, 12, .inr (.inl olp)))]) hD hS hA [20, 26, 27, 14, 21, 15, 22, 23, 2, 3, 4, 5, 6, 7, 8, 9, 10, 11, 12, 13, 24, 0, 1] rfl
          refine va_callv (va_runV (As := [.ref oc_plan, .int x_112031, .ref ol]) (rest := []) ⟨hx, hb, hml, hown, hts⟩ (c_X0_expectMoves l D g H.size co oc_plan x_112031 ol n eq co_place n_nodes n_kind n_pay n_name n_ways n_held n_targets n_weights n_fkind n_fpay n_fways n_fheld n_ftargets n_fweights opc_111840 eq_rows eq_right oew_111841 ofr_111842 rr oct_111846 opl_111851 ol_part olw olp (tr_w h_n_nodes (by decide) (by decide)) (tr_wa h_n_fkind (by decide) (by decide)) (tr_wa h_n_fways (by decide) (by decide)) (tr_wa h_n_fheld (by decide) (by decide)) (tr_wa h_n_ftargets (by decide) (by decide)) (tr_wa hf_111847 (by decide) (by decide)) (tr_wa hf_111852 (by decide) (by decide))) (cwV 3 hts (tz_gV qw_689 qw_690 qw_691 qw_490 qw_692) rfl rfl rfl (by decide +kernel) ⟨Nat.le_of_ble_eq_true rfl, Nat.le_of_ble_eq_true rfl⟩) ⟨tz_blQ, va_recv hK hPc (ci := 0) (q0 := 0) rfl rfl, tz_preQ hPc hK hDc⟩ rfl rfl hl.1 rfl (lv_room (Nat.le_of_ble_eq_true rfl)) dX3_settle_110 ⟨Nat.le_of_ble_eq_true rfl, Nat.le_of_ble_eq_true rfl⟩) hS (fun q _ h => hFc q h) hFc (fun u t H1 locs ht hvm hw hB hz1 hk1 hS => ?_)
          obtain ⟨opc_112037, oew_112038, ofr_112039, ovw_112040, ovp_112041, oct_112042, hf_112043, hP1, hD1⟩ := hB
          rw [ht] at hP1
          obtain ⟨hP, hD⟩ := va_join (wr := [(ow, .inr (10, [.ref ow_part, .long ovw_111844])), (ow_part, .inl (g 1, 12, .inr (.inl ovp_111845))), (sv_keep, .inl (g 0, 12, .inl okp_111850)), (sv, .inr (6, [.ref n, .ref co, .ref sv_keep, .ref sv_scaled])), (oc, .inr (3, [.ref n, .ref sv, .ref oc_plan, .ref ow, .ref ol, .ref oc_reach, .ref oc_ringBits, .int xrc_111856, .int xrn_111857, .int ose])), (oc_reach, .inl (g 0, 12, .inl xrf_111854)), (oc_ringBits, .inl (g 0, 12, .inl xbf_111858))]) (w1 := [(co, .inr (0, [.ref n, .ref eq, .ref co_place])), (n, .inr (2, [.int n_nodes, .ref n_kind, .ref n_pay, .ref n_name, .ref n_ways, .ref n_held, .ref n_targets, .ref n_weights])), (n_kind, .inl (g 0, 12, .inl n_fkind)), (n_pay, .inl (g 0, 12, .inl n_fpay)), (n_ways, .inl (g 0, 12, .inl n_fways)), (n_held, .inl (g 0, 12, .inl n_fheld)), (n_targets, .inl (g 0, 36, .inl n_ftargets)), (n_weights, .inl (g 0, 36, .inl n_fweights)), (co_place, .inl (g 0, 12, .inl opc_112037)), (eq, .inr (1, [.ref eq_rows, .ref eq_right, .long oew_112038])), (eq_right, .inl (g 1, 8, .inr (.inl ofr_112039))), (eq_rows, .inl (g 5, 8, .inr (.inr (.inr (.inr (fun i => if i < 8 then some (rr i) else none)))))), ((rr 0), .inl (g 1, 8, .inr (.inl (oct_112042 0)))), ((rr 1), .inl (g 1, 8, .inr (.inl (oct_112042 1)))), ((rr 2), .inl (g 1, 8, .inr (.inl (oct_112042 2)))), ((rr 3), .inl (g 1, 8, .inr (.inl (oct_112042 3)))), ((rr 4), .inl (g 1, 8, .inr (.inl (oct_112042 4)))), ((rr 5), .inl (g 1, 8, .inr (.inl (oct_112042 5)))), ((rr 6), .inl (g 1, 8, .inr (.inl (oct_112042 6)))), ((rr 7), .inl (g 1, 8, .inr (.inl (oct_112042 7)))), (oc_plan, .inl (g 0, 12, .inl opl_111851)), (ol, .inr (10, [.ref ol_part, .long ovw_112040])), (ol_part, .inl (g 1, 12, .inr (.inl ovp_112041)))]) hP hD [20, 26, 27, 14, 21, 15, 22, 23, 2, 3, 4, 5, 6, 7, 8, 9, 10, 11, 12, 13, 24, 0, 1] [16, 17, 18, 19, 25, 28, 29] rfl rfl (by decide) (by decide) hk1 hFc hP1 hD1
          generalize H1 = H at hP hS ⊢
          have hP : va_P D vwCl ((ow, .inr (10, [.ref ow_part, .long ovw_111844])) :: (ow_part, .inl (g 1, 12, .inr (.inl ovp_111845))) :: (sv_keep, .inl (g 0, 12, .inl okp_111850)) :: (sv, .inr (6, [.ref n, .ref co, .ref sv_keep, .ref sv_scaled])) :: (oc, .inr (3, [.ref n, .ref sv, .ref oc_plan, .ref ow, .ref ol, .ref oc_reach, .ref oc_ringBits, .int xrc_111856, .int xrn_111857, .int ose])) :: (oc_reach, .inl (g 0, 12, .inl xrf_111854)) :: (oc_ringBits, .inl (g 0, 12, .inl xbf_111858)) :: (co, .inr (0, [.ref n, .ref eq, .ref co_place])) :: (n, .inr (2, [.int n_nodes, .ref n_kind, .ref n_pay, .ref n_name, .ref n_ways, .ref n_held, .ref n_targets, .ref n_weights])) :: (n_kind, .inl (g 0, 12, .inl n_fkind)) :: (n_pay, .inl (g 0, 12, .inl n_fpay)) :: (n_ways, .inl (g 0, 12, .inl n_fways)) :: (n_held, .inl (g 0, 12, .inl n_fheld)) :: (n_targets, .inl (g 0, 36, .inl n_ftargets)) :: (n_weights, .inl (g 0, 36, .inl n_fweights)) :: (co_place, .inl (g 0, 12, .inl opc_112037)) :: (eq, .inr (1, [.ref eq_rows, .ref eq_right, .long oew_112038])) :: (eq_right, .inl (g 1, 8, .inr (.inl ofr_112039))) :: (eq_rows, .inl (g 5, 8, .inr (.inr (.inr (.inr (fun i => if i < 8 then some (rr i) else none)))))) :: ((rr 0), .inl (g 1, 8, .inr (.inl (oct_112042 0)))) :: ((rr 1), .inl (g 1, 8, .inr (.inl (oct_112042 1)))) :: ((rr 2), .inl (g 1, 8, .inr (.inl (oct_112042 2)))) :: ((rr 3), .inl (g 1, 8, .inr (.inl (oct_112042 3)))) :: ((rr 4), .inl (g 1, 8, .inr (.inl (oct_112042 4)))) :: ((rr 5), .inl (g 1, 8, .inr (.inl (oct_112042 5)))) :: ((rr 6), .inl (g 1, 8, .inr (.inl (oct_112042 6)))) :: ((rr 7), .inl (g 1, 8, .inr (.inl (oct_112042 7)))) :: (oc_plan, .inl (g 0, 12, .inl opl_111851)) :: (ol, .inr (10, [.ref ol_part, .long ovw_112040])) :: (ol_part, .inl (g 1, 12, .inr (.inl ovp_112041))) :: []) H := hP
          have hD : va_D A ((ow, .inr (10, [.ref ow_part, .long ovw_111844])) :: (ow_part, .inl (g 1, 12, .inr (.inl ovp_111845))) :: (sv_keep, .inl (g 0, 12, .inl okp_111850)) :: (sv, .inr (6, [.ref n, .ref co, .ref sv_keep, .ref sv_scaled])) :: (oc, .inr (3, [.ref n, .ref sv, .ref oc_plan, .ref ow, .ref ol, .ref oc_reach, .ref oc_ringBits, .int xrc_111856, .int xrn_111857, .int ose])) :: (oc_reach, .inl (g 0, 12, .inl xrf_111854)) :: (oc_ringBits, .inl (g 0, 12, .inl xbf_111858)) :: (co, .inr (0, [.ref n, .ref eq, .ref co_place])) :: (n, .inr (2, [.int n_nodes, .ref n_kind, .ref n_pay, .ref n_name, .ref n_ways, .ref n_held, .ref n_targets, .ref n_weights])) :: (n_kind, .inl (g 0, 12, .inl n_fkind)) :: (n_pay, .inl (g 0, 12, .inl n_fpay)) :: (n_ways, .inl (g 0, 12, .inl n_fways)) :: (n_held, .inl (g 0, 12, .inl n_fheld)) :: (n_targets, .inl (g 0, 36, .inl n_ftargets)) :: (n_weights, .inl (g 0, 36, .inl n_fweights)) :: (co_place, .inl (g 0, 12, .inl opc_112037)) :: (eq, .inr (1, [.ref eq_rows, .ref eq_right, .long oew_112038])) :: (eq_right, .inl (g 1, 8, .inr (.inl ofr_112039))) :: (eq_rows, .inl (g 5, 8, .inr (.inr (.inr (.inr (fun i => if i < 8 then some (rr i) else none)))))) :: ((rr 0), .inl (g 1, 8, .inr (.inl (oct_112042 0)))) :: ((rr 1), .inl (g 1, 8, .inr (.inl (oct_112042 1)))) :: ((rr 2), .inl (g 1, 8, .inr (.inl (oct_112042 2)))) :: ((rr 3), .inl (g 1, 8, .inr (.inl (oct_112042 3)))) :: ((rr 4), .inl (g 1, 8, .inr (.inl (oct_112042 4)))) :: ((rr 5), .inl (g 1, 8, .inr (.inl (oct_112042 5)))) :: ((rr 6), .inl (g 1, 8, .inr (.inl (oct_112042 6)))) :: ((rr 7), .inl (g 1, 8, .inr (.inl (oct_112042 7)))) :: (oc_plan, .inl (g 0, 12, .inl opl_111851)) :: (ol, .inr (10, [.ref ol_part, .long ovw_112040])) :: (ol_part, .inl (g 1, 12, .inr (.inl ovp_112041))) :: []) := hD
          refine lv_aload_n hx hb dX3_settle_113 rfl (lv_at hl 2 rfl) ?_
          refine lv_iconst (v := 1) hx hb dX3_settle_114 (by decide) ?_
          refine va_put (D := D) (ci := 3) (v := .int 1) (ty := .boolean) (C := RX3) (T := TX3) (N := 10) hx hb hts inlX3 tyX3 tyX3_ok nmX3 hown hK hP hD hS 4 rfl rfl 9 (by decide) (hts (Cond.fieldLink RX3 39 "ChanceRings$Outcome" "settled" "Z") qw_667) (fun _ h9 => h9) rfl (by decide +kernel) (by decide) rfl (Nat.le_of_ble_eq_true rfl) dX3_settle_115 (fun H locs hP hD hS => ?_)
          have hP : va_P D vwCl ((ow, .inr (10, [.ref ow_part, .long ovw_111844])) :: (ow_part, .inl (g 1, 12, .inr (.inl ovp_111845))) :: (sv_keep, .inl (g 0, 12, .inl okp_111850)) :: (sv, .inr (6, [.ref n, .ref co, .ref sv_keep, .ref sv_scaled])) :: (oc, .inr (3, [.ref n, .ref sv, .ref oc_plan, .ref ow, .ref ol, .ref oc_reach, .ref oc_ringBits, .int xrc_111856, .int xrn_111857, .int 1])) :: (oc_reach, .inl (g 0, 12, .inl xrf_111854)) :: (oc_ringBits, .inl (g 0, 12, .inl xbf_111858)) :: (co, .inr (0, [.ref n, .ref eq, .ref co_place])) :: (n, .inr (2, [.int n_nodes, .ref n_kind, .ref n_pay, .ref n_name, .ref n_ways, .ref n_held, .ref n_targets, .ref n_weights])) :: (n_kind, .inl (g 0, 12, .inl n_fkind)) :: (n_pay, .inl (g 0, 12, .inl n_fpay)) :: (n_ways, .inl (g 0, 12, .inl n_fways)) :: (n_held, .inl (g 0, 12, .inl n_fheld)) :: (n_targets, .inl (g 0, 36, .inl n_ftargets)) :: (n_weights, .inl (g 0, 36, .inl n_fweights)) :: (co_place, .inl (g 0, 12, .inl opc_112037)) :: (eq, .inr (1, [.ref eq_rows, .ref eq_right, .long oew_112038])) :: (eq_right, .inl (g 1, 8, .inr (.inl ofr_112039))) :: (eq_rows, .inl (g 5, 8, .inr (.inr (.inr (.inr (fun i => if i < 8 then some (rr i) else none)))))) :: ((rr 0), .inl (g 1, 8, .inr (.inl (oct_112042 0)))) :: ((rr 1), .inl (g 1, 8, .inr (.inl (oct_112042 1)))) :: ((rr 2), .inl (g 1, 8, .inr (.inl (oct_112042 2)))) :: ((rr 3), .inl (g 1, 8, .inr (.inl (oct_112042 3)))) :: ((rr 4), .inl (g 1, 8, .inr (.inl (oct_112042 4)))) :: ((rr 5), .inl (g 1, 8, .inr (.inl (oct_112042 5)))) :: ((rr 6), .inl (g 1, 8, .inr (.inl (oct_112042 6)))) :: ((rr 7), .inl (g 1, 8, .inr (.inl (oct_112042 7)))) :: (oc_plan, .inl (g 0, 12, .inl opl_111851)) :: (ol, .inr (10, [.ref ol_part, .long ovw_112040])) :: (ol_part, .inl (g 1, 12, .inr (.inl ovp_112041))) :: []) H := hP
          have hD : va_D A ((ow, .inr (10, [.ref ow_part, .long ovw_111844])) :: (ow_part, .inl (g 1, 12, .inr (.inl ovp_111845))) :: (sv_keep, .inl (g 0, 12, .inl okp_111850)) :: (sv, .inr (6, [.ref n, .ref co, .ref sv_keep, .ref sv_scaled])) :: (oc, .inr (3, [.ref n, .ref sv, .ref oc_plan, .ref ow, .ref ol, .ref oc_reach, .ref oc_ringBits, .int xrc_111856, .int xrn_111857, .int 1])) :: (oc_reach, .inl (g 0, 12, .inl xrf_111854)) :: (oc_ringBits, .inl (g 0, 12, .inl xbf_111858)) :: (co, .inr (0, [.ref n, .ref eq, .ref co_place])) :: (n, .inr (2, [.int n_nodes, .ref n_kind, .ref n_pay, .ref n_name, .ref n_ways, .ref n_held, .ref n_targets, .ref n_weights])) :: (n_kind, .inl (g 0, 12, .inl n_fkind)) :: (n_pay, .inl (g 0, 12, .inl n_fpay)) :: (n_ways, .inl (g 0, 12, .inl n_fways)) :: (n_held, .inl (g 0, 12, .inl n_fheld)) :: (n_targets, .inl (g 0, 36, .inl n_ftargets)) :: (n_weights, .inl (g 0, 36, .inl n_fweights)) :: (co_place, .inl (g 0, 12, .inl opc_112037)) :: (eq, .inr (1, [.ref eq_rows, .ref eq_right, .long oew_112038])) :: (eq_right, .inl (g 1, 8, .inr (.inl ofr_112039))) :: (eq_rows, .inl (g 5, 8, .inr (.inr (.inr (.inr (fun i => if i < 8 then some (rr i) else none)))))) :: ((rr 0), .inl (g 1, 8, .inr (.inl (oct_112042 0)))) :: ((rr 1), .inl (g 1, 8, .inr (.inl (oct_112042 1)))) :: ((rr 2), .inl (g 1, 8, .inr (.inl (oct_112042 2)))) :: ((rr 3), .inl (g 1, 8, .inr (.inl (oct_112042 3)))) :: ((rr 4), .inl (g 1, 8, .inr (.inl (oct_112042 4)))) :: ((rr 5), .inl (g 1, 8, .inr (.inl (oct_112042 5)))) :: ((rr 6), .inl (g 1, 8, .inr (.inl (oct_112042 6)))) :: ((rr 7), .inl (g 1, 8, .inr (.inl (oct_112042 7)))) :: (oc_plan, .inl (g 0, 12, .inl opl_111851)) :: (ol, .inr (10, [.ref ol_part, .long ovw_112040])) :: (ol_part, .inl (g 1, 12, .inr (.inl ovp_112041))) :: []) := hD
          have hP9 := hP.sub (ws' := ((oc, .inr (3, [.ref n, .ref sv, .ref oc_plan, .ref ow, .ref ol, .ref oc_reach, .ref oc_ringBits, .int xrc_111856, .int xrn_111857, .int 1])) :: (sv, .inr (6, [.ref n, .ref co, .ref sv_keep, .ref sv_scaled])) :: (co, .inr (0, [.ref n, .ref eq, .ref co_place])) :: (n, .inr (2, [.int n_nodes, .ref n_kind, .ref n_pay, .ref n_name, .ref n_ways, .ref n_held, .ref n_targets, .ref n_weights])) :: (n_kind, .inl (g 0, 12, .inl n_fkind)) :: (n_pay, .inl (g 0, 12, .inl n_fpay)) :: (n_ways, .inl (g 0, 12, .inl n_fways)) :: (n_held, .inl (g 0, 12, .inl n_fheld)) :: (n_targets, .inl (g 0, 36, .inl n_ftargets)) :: (n_weights, .inl (g 0, 36, .inl n_fweights)) :: (co_place, .inl (g 0, 12, .inl opc_112037)) :: (eq, .inr (1, [.ref eq_rows, .ref eq_right, .long oew_112038])) :: (eq_right, .inl (g 1, 8, .inr (.inl ofr_112039))) :: (eq_rows, .inl (g 5, 8, .inr (.inr (.inr (.inr (fun i => if i < 8 then some (rr i) else none)))))) :: ((rr 0), .inl (g 1, 8, .inr (.inl (oct_112042 0)))) :: ((rr 1), .inl (g 1, 8, .inr (.inl (oct_112042 1)))) :: ((rr 2), .inl (g 1, 8, .inr (.inl (oct_112042 2)))) :: ((rr 3), .inl (g 1, 8, .inr (.inl (oct_112042 3)))) :: ((rr 4), .inl (g 1, 8, .inr (.inl (oct_112042 4)))) :: ((rr 5), .inl (g 1, 8, .inr (.inl (oct_112042 5)))) :: ((rr 6), .inl (g 1, 8, .inr (.inl (oct_112042 6)))) :: ((rr 7), .inl (g 1, 8, .inr (.inl (oct_112042 7)))) :: (sv_keep, .inl (g 0, 12, .inl okp_111850)) :: (oc_plan, .inl (g 0, 12, .inl opl_111851)) :: (oc_reach, .inl (g 0, 12, .inl xrf_111854)) :: (oc_ringBits, .inl (g 0, 12, .inl xbf_111858)) :: (ow, .inr (10, [.ref ow_part, .long ovw_111844])) :: (ow_part, .inl (g 1, 12, .inr (.inl ovp_111845))) :: (ol, .inr (10, [.ref ol_part, .long ovw_112040])) :: (ol_part, .inl (g 1, 12, .inr (.inl ovp_112041))) :: [])) [4, 3, 7, 8, 9, 10, 11, 12, 13, 14, 15, 16, 17, 18, 19, 20, 21, 22, 23, 24, 25, 26, 2, 27, 5, 6, 0, 1, 28, 29] rfl
          have hD9 := hD.sub (ws' := ((oc, .inr (3, [.ref n, .ref sv, .ref oc_plan, .ref ow, .ref ol, .ref oc_reach, .ref oc_ringBits, .int xrc_111856, .int xrn_111857, .int 1])) :: (sv, .inr (6, [.ref n, .ref co, .ref sv_keep, .ref sv_scaled])) :: (co, .inr (0, [.ref n, .ref eq, .ref co_place])) :: (n, .inr (2, [.int n_nodes, .ref n_kind, .ref n_pay, .ref n_name, .ref n_ways, .ref n_held, .ref n_targets, .ref n_weights])) :: (n_kind, .inl (g 0, 12, .inl n_fkind)) :: (n_pay, .inl (g 0, 12, .inl n_fpay)) :: (n_ways, .inl (g 0, 12, .inl n_fways)) :: (n_held, .inl (g 0, 12, .inl n_fheld)) :: (n_targets, .inl (g 0, 36, .inl n_ftargets)) :: (n_weights, .inl (g 0, 36, .inl n_fweights)) :: (co_place, .inl (g 0, 12, .inl opc_112037)) :: (eq, .inr (1, [.ref eq_rows, .ref eq_right, .long oew_112038])) :: (eq_right, .inl (g 1, 8, .inr (.inl ofr_112039))) :: (eq_rows, .inl (g 5, 8, .inr (.inr (.inr (.inr (fun i => if i < 8 then some (rr i) else none)))))) :: ((rr 0), .inl (g 1, 8, .inr (.inl (oct_112042 0)))) :: ((rr 1), .inl (g 1, 8, .inr (.inl (oct_112042 1)))) :: ((rr 2), .inl (g 1, 8, .inr (.inl (oct_112042 2)))) :: ((rr 3), .inl (g 1, 8, .inr (.inl (oct_112042 3)))) :: ((rr 4), .inl (g 1, 8, .inr (.inl (oct_112042 4)))) :: ((rr 5), .inl (g 1, 8, .inr (.inl (oct_112042 5)))) :: ((rr 6), .inl (g 1, 8, .inr (.inl (oct_112042 6)))) :: ((rr 7), .inl (g 1, 8, .inr (.inl (oct_112042 7)))) :: (sv_keep, .inl (g 0, 12, .inl okp_111850)) :: (oc_plan, .inl (g 0, 12, .inl opl_111851)) :: (oc_reach, .inl (g 0, 12, .inl xrf_111854)) :: (oc_ringBits, .inl (g 0, 12, .inl xbf_111858)) :: (ow, .inr (10, [.ref ow_part, .long ovw_111844])) :: (ow_part, .inl (g 1, 12, .inr (.inl ovp_111845))) :: (ol, .inr (10, [.ref ol_part, .long ovw_112040])) :: (ol_part, .inl (g 1, 12, .inr (.inl ovp_112041))) :: [])) [4, 3, 7, 8, 9, 10, 11, 12, 13, 14, 15, 16, 17, 18, 19, 20, 21, 22, 23, 24, 25, 26, 2, 27, 5, 6, 0, 1, 28, 29] (by decide) rfl
          exact W.vret hx hb hr (fun t ht hW => ⟨⟨(), rfl, trivial, xrc_111856, xrn_111857, 1, opc_112037, oew_112038, ofr_112039, okp_111850, opl_111851, xrf_111854, xbf_111858, ovw_111844, ovp_111845, ovw_112040, ovp_112041, oct_112042, (tr_w hf_111859 (by decide) (by decide)), (⟨by decide, by decide⟩ : 0 ≤ (1 : Int32).toInt ∧ (1 : Int32).toInt ≤ 1), (tr_wa hf_112043 (by decide) (by decide)), (tr_wa hf_111852 (by decide) (by decide)), by rw [ht]; exact hP9, hD9⟩, hS.F ht⟩) hS.2.2 dX3_settle_118
        · skip
          have c_112033_i := Int32.lt_iff_toInt_lt.mp (Int32.not_le.mp c_112033)
          have h_112034 : 0 ≤ (x_112030 : Int32).toInt ∧ (x_112030 : Int32).toInt ≤ 11 := by have q1 := h_x_112030; have q2 := h_n_nodes; omega
          have h_112035 : 1 ≤ (n_nodes : Int32).toInt ∧ (n_nodes : Int32).toInt ≤ 12 := by have q1 := h_x_112030; have q2 := h_n_nodes; omega
          refine lv_aload_n hx hb dX3_settle_74 rfl (lv_at hl 2 rfl) ?_
          refine lv_iload_n hx hb dX3_settle_75 rfl (lv_at hl 0 rfl) ?_
          have hPc := hP.sub (ws' := [(oc, .inr (3, [.ref n, .ref sv, .ref oc_plan, .ref ow, .ref ol, .ref oc_reach, .ref oc_ringBits, .int xrc_111856, .int xrn_111857, .int ose])), (oc_reach, .inl (g 0, 12, .inl xrf_111854))]) [25, 28] rfl
          refine vp_callSi (va_Run.run (va_runV (As := [.int x_112030]) (rest := []) ⟨hx, hb, hml, hown, hts⟩ (c_X3_comesToRing l D g oc x_112030 n sv oc_plan ow ol oc_reach oc_ringBits xrc_111856 xrn_111857 ose xrf_111854 (tr_w h_112034 (by decide) (by decide)) (tr_w hf_111859 (by decide) (by decide)) (tr_w h_111834 (by decide) (by decide))) (cwV 1 hts (tz_gV qw_693 qw_694 qw_695 qw_649 qw_696) rfl rfl rfl (by decide +kernel) ⟨Nat.le_of_ble_eq_true rfl, Nat.le_of_ble_eq_true rfl⟩) ⟨tz_blS, va_recv hK hPc (ci := 3) (q0 := 0) rfl rfl, tz_preS hPc hK⟩ rfl rfl hl.1 rfl (lv_room (Nat.le_of_ble_eq_true rfl)) dX3_settle_76 ⟨Nat.le_of_ble_eq_true rfl, Nat.le_of_ble_eq_true rfl⟩)) (fun r_112044 hw => ?_)
          have hw_112045 : 0 ≤ (r_112044 : Int32).toInt ∧ (r_112044 : Int32).toInt ≤ 1 := hw
          refine lv_if_ne (tgt := 88) hx hb dX3_settle_79 (by decide) (fun c_112046 => ?_) (fun c_112046 => ?_)
          · skip
            have c_112046_i := c_112046
            have c_112046_i : ¬ (r_112044 : Int32).toInt = (0 : Int32).toInt := (fun q => c_112046 (Int32.toInt_inj.mp q))
            have h_112047 : 1 ≤ (r_112044 : Int32).toInt ∧ (r_112044 : Int32).toInt ≤ 1 := by have q1 := hw_112045; have q2 := (⟨by decide, by decide⟩ : 0 ≤ (0 : Int32).toInt ∧ (0 : Int32).toInt ≤ 0); omega
            obtain ⟨v_112049, v_112049_e⟩ : ∃ y : Int32, y = x_112030 + Int32.ofInt 1 := ⟨_, rfl⟩
            have h_v_112049 : 1 ≤ (v_112049 : Int32).toInt ∧ (v_112049 : Int32).toInt ≤ 12 := by rw [v_112049_e]; exact tr_add h_112034 (⟨by decide, by decide⟩ : 1 ≤ (Int32.ofInt 1 : Int32).toInt ∧ (Int32.ofInt 1 : Int32).toInt ≤ 1) (by decide) (by decide) (by decide) (by decide)
            have q_v_112049 : v_112049.toInt = x_112030.toInt + 1 := by rw [v_112049_e]; exact tr_addE h_112034 (⟨by decide, by decide⟩ : 1 ≤ (Int32.ofInt 1 : Int32).toInt ∧ (Int32.ofInt 1 : Int32).toInt ≤ 1) (by decide) (by decide)
            refine lv_iinc (v := v_112049) (lv' := [(2, .int v_112049), (1, .int x_112031), (0, .ref oc)]) hx hb dX3_settle_88 hl (k := 0) rfl v_112049_e.symm (by decide) rfl (fun ls hl => ?_)
            refine lv_goto (tgt := 63) hx hb dX3_settle_91 (by decide) ?_
            exact ih_112032 v_112049 x_112031 H _ ls (tr_w h_v_112049 (by decide) (by decide)) (by omega) (hP.sub [0, 1, 2, 3, 4, 5, 6, 7, 8, 9, 10, 11, 12, 13, 14, 15, 16, 17, 18, 19, 20, 21, 22, 23, 24, 25, 26, 27, 28, 29] rfl) (hD.sub [0, 1, 2, 3, 4, 5, 6, 7, 8, 9, 10, 11, 12, 13, 14, 15, 16, 17, 18, 19, 20, 21, 22, 23, 24, 25, 26, 27, 28, 29] (by decide) rfl) hS (lv_sub hl [0, 1, 2] rfl)
          · skip
            have c_112046_i := c_112046
            have c_112046_i : (r_112044 : Int32).toInt = (0 : Int32).toInt := congrArg Int32.toInt c_112046
            have h_112048 : 0 ≤ (r_112044 : Int32).toInt ∧ (r_112044 : Int32).toInt ≤ 0 := by have q1 := hw_112045; have q2 := (⟨by decide, by decide⟩ : 0 ≤ (0 : Int32).toInt ∧ (0 : Int32).toInt ≤ 0); omega
            refine lv_iload_n hx hb dX3_settle_82 rfl (lv_at hl 1 rfl) ?_
            refine lv_iconst (v := 1) hx hb dX3_settle_83 (by decide) ?_
            refine lv_iload_n hx hb dX3_settle_84 rfl (lv_at hl 0 rfl) ?_
            refine lv_ishl hx hb dX3_settle_85 ?_
            refine lv_topi (fun v_112050 v_112050_e => ?_)
            refine lv_ior hx hb dX3_settle_86 ?_
            refine lv_topi (fun v_112051 v_112051_e => ?_)
            refine lv_istore_n (lv' := [(1, .int v_112051), (2, .int x_112030), (0, .ref oc)]) hx hb dX3_settle_87 rfl hl (by decide) rfl (fun ls hl => ?_)
            obtain ⟨v_112052, v_112052_e⟩ : ∃ y : Int32, y = x_112030 + Int32.ofInt 1 := ⟨_, rfl⟩
            have h_v_112052 : 1 ≤ (v_112052 : Int32).toInt ∧ (v_112052 : Int32).toInt ≤ 12 := by rw [v_112052_e]; exact tr_add h_112034 (⟨by decide, by decide⟩ : 1 ≤ (Int32.ofInt 1 : Int32).toInt ∧ (Int32.ofInt 1 : Int32).toInt ≤ 1) (by decide) (by decide) (by decide) (by decide)
            have q_v_112052 : v_112052.toInt = x_112030.toInt + 1 := by rw [v_112052_e]; exact tr_addE h_112034 (⟨by decide, by decide⟩ : 1 ≤ (Int32.ofInt 1 : Int32).toInt ∧ (Int32.ofInt 1 : Int32).toInt ≤ 1) (by decide) (by decide)
            refine lv_iinc (v := v_112052) (lv' := [(2, .int v_112052), (1, .int v_112051), (0, .ref oc)]) hx hb dX3_settle_88 hl (k := 1) rfl v_112052_e.symm (by decide) rfl (fun ls hl => ?_)
            refine lv_goto (tgt := 63) hx hb dX3_settle_91 (by decide) ?_
            exact ih_112032 v_112052 v_112051 H _ ls (tr_w h_v_112052 (by decide) (by decide)) (by omega) (hP.sub [0, 1, 2, 3, 4, 5, 6, 7, 8, 9, 10, 11, 12, 13, 14, 15, 16, 17, 18, 19, 20, 21, 22, 23, 24, 25, 26, 27, 28, 29] rfl) (hD.sub [0, 1, 2, 3, 4, 5, 6, 7, 8, 9, 10, 11, 12, 13, 14, 15, 16, 17, 18, 19, 20, 21, 22, 23, 24, 25, 26, 27, 28, 29] (by decide) rfl) hS (lv_sub hl [0, 1, 2] rfl)
    exact lp_112032 13 0 0 H _ ls (⟨by decide, by decide⟩ : 0 ≤ (0 : Int32).toInt ∧ (0 : Int32).toInt ≤ 12) (by decide) (hP.sub [0, 1, 2, 3, 4, 5, 6, 7, 8, 9, 10, 11, 12, 13, 14, 15, 16, 17, 18, 19, 20, 21, 22, 23, 24, 25, 26, 27, 28, 29] rfl) (hD.sub [0, 1, 2, 3, 4, 5, 6, 7, 8, 9, 10, 11, 12, 13, 14, 15, 16, 17, 18, 19, 20, 21, 22, 23, 24, 25, 26, 27, 28, 29] (by decide) rfl) hS (lv_sub hl [0, 1, 2] rfl)
  · skip
    have c_111833_i := c_111833
    have c_111833_i : ¬ (ose : Int32).toInt = (0 : Int32).toInt := (fun q => c_111833 (Int32.toInt_inj.mp q))
    have h_111835 : 1 ≤ (ose : Int32).toInt ∧ (ose : Int32).toInt ≤ 1 := by have q1 := h_ose; have q2 := (⟨by decide, by decide⟩ : 0 ≤ (0 : Int32).toInt ∧ (0 : Int32).toInt ≤ 0); omega
    have hP9 := hP.sub (ws' := ((oc, .inr (3, [.ref n, .ref sv, .ref oc_plan, .ref ow, .ref ol, .ref oc_reach, .ref oc_ringBits, .int orc, .int orn, .int ose])) :: (sv, .inr (6, [.ref n, .ref co, .ref sv_keep, .ref sv_scaled])) :: (co, .inr (0, [.ref n, .ref eq, .ref co_place])) :: (n, .inr (2, [.int n_nodes, .ref n_kind, .ref n_pay, .ref n_name, .ref n_ways, .ref n_held, .ref n_targets, .ref n_weights])) :: (n_kind, .inl (g 0, 12, .inl n_fkind)) :: (n_pay, .inl (g 0, 12, .inl n_fpay)) :: (n_ways, .inl (g 0, 12, .inl n_fways)) :: (n_held, .inl (g 0, 12, .inl n_fheld)) :: (n_targets, .inl (g 0, 36, .inl n_ftargets)) :: (n_weights, .inl (g 0, 36, .inl n_fweights)) :: (co_place, .inl (g 0, 12, .inl pcf)) :: (eq, .inr (1, [.ref eq_rows, .ref eq_right, .long ew])) :: (eq_right, .inl (g 1, 8, .inr (.inl fr))) :: (eq_rows, .inl (g 5, 8, .inr (.inr (.inr (.inr (fun i => if i < 8 then some (rr i) else none)))))) :: ((rr 0), .inl (g 1, 8, .inr (.inl (ct 0)))) :: ((rr 1), .inl (g 1, 8, .inr (.inl (ct 1)))) :: ((rr 2), .inl (g 1, 8, .inr (.inl (ct 2)))) :: ((rr 3), .inl (g 1, 8, .inr (.inl (ct 3)))) :: ((rr 4), .inl (g 1, 8, .inr (.inl (ct 4)))) :: ((rr 5), .inl (g 1, 8, .inr (.inl (ct 5)))) :: ((rr 6), .inl (g 1, 8, .inr (.inl (ct 6)))) :: ((rr 7), .inl (g 1, 8, .inr (.inl (ct 7)))) :: (sv_keep, .inl (g 0, 12, .inl kpf)) :: (oc_plan, .inl (g 0, 12, .inl opf)) :: (oc_reach, .inl (g 0, 12, .inl orf)) :: (oc_ringBits, .inl (g 0, 12, .inl obf)) :: (ow, .inr (10, [.ref ow_part, .long oww])) :: (ow_part, .inl (g 1, 12, .inr (.inl owp))) :: (ol, .inr (10, [.ref ol_part, .long olw])) :: (ol_part, .inl (g 1, 12, .inr (.inl olp))) :: [])) [0, 1, 2, 3, 4, 5, 6, 7, 8, 9, 10, 11, 12, 13, 14, 15, 16, 17, 18, 19, 20, 21, 22, 23, 24, 25, 26, 27, 28, 29] rfl
    have hD9 := hD.sub (ws' := ((oc, .inr (3, [.ref n, .ref sv, .ref oc_plan, .ref ow, .ref ol, .ref oc_reach, .ref oc_ringBits, .int orc, .int orn, .int ose])) :: (sv, .inr (6, [.ref n, .ref co, .ref sv_keep, .ref sv_scaled])) :: (co, .inr (0, [.ref n, .ref eq, .ref co_place])) :: (n, .inr (2, [.int n_nodes, .ref n_kind, .ref n_pay, .ref n_name, .ref n_ways, .ref n_held, .ref n_targets, .ref n_weights])) :: (n_kind, .inl (g 0, 12, .inl n_fkind)) :: (n_pay, .inl (g 0, 12, .inl n_fpay)) :: (n_ways, .inl (g 0, 12, .inl n_fways)) :: (n_held, .inl (g 0, 12, .inl n_fheld)) :: (n_targets, .inl (g 0, 36, .inl n_ftargets)) :: (n_weights, .inl (g 0, 36, .inl n_fweights)) :: (co_place, .inl (g 0, 12, .inl pcf)) :: (eq, .inr (1, [.ref eq_rows, .ref eq_right, .long ew])) :: (eq_right, .inl (g 1, 8, .inr (.inl fr))) :: (eq_rows, .inl (g 5, 8, .inr (.inr (.inr (.inr (fun i => if i < 8 then some (rr i) else none)))))) :: ((rr 0), .inl (g 1, 8, .inr (.inl (ct 0)))) :: ((rr 1), .inl (g 1, 8, .inr (.inl (ct 1)))) :: ((rr 2), .inl (g 1, 8, .inr (.inl (ct 2)))) :: ((rr 3), .inl (g 1, 8, .inr (.inl (ct 3)))) :: ((rr 4), .inl (g 1, 8, .inr (.inl (ct 4)))) :: ((rr 5), .inl (g 1, 8, .inr (.inl (ct 5)))) :: ((rr 6), .inl (g 1, 8, .inr (.inl (ct 6)))) :: ((rr 7), .inl (g 1, 8, .inr (.inl (ct 7)))) :: (sv_keep, .inl (g 0, 12, .inl kpf)) :: (oc_plan, .inl (g 0, 12, .inl opf)) :: (oc_reach, .inl (g 0, 12, .inl orf)) :: (oc_ringBits, .inl (g 0, 12, .inl obf)) :: (ow, .inr (10, [.ref ow_part, .long oww])) :: (ow_part, .inl (g 1, 12, .inr (.inl owp))) :: (ol, .inr (10, [.ref ol_part, .long olw])) :: (ol_part, .inl (g 1, 12, .inr (.inl olp))) :: [])) [0, 1, 2, 3, 4, 5, 6, 7, 8, 9, 10, 11, 12, 13, 14, 15, 16, 17, 18, 19, 20, 21, 22, 23, 24, 25, 26, 27, 28, 29] (by decide) rfl
    exact W.vret hx hb hr (fun t ht hW => ⟨⟨(), rfl, trivial, orc, orn, ose, pcf, ew, fr, kpf, opf, orf, obf, oww, owp, olw, olp, ct, (tr_w h_orc (by decide) (by decide)), (tr_w h_111835 (by decide) (by decide)), (tr_wa h_pcf (by decide) (by decide)), (tr_wa h_opf (by decide) (by decide)), by rw [ht]; exact hP9, hD9⟩, hS.F ht⟩) hS.2.2 dX3_settle_7
