theorem qw_619 : Cond.fieldLink RX3 31 "ChanceRings$Outcome" "net" "LChanceRings$Net;" ∈ wsL_law := tseg_2 (by decide +kernel) (List.mem_of_getElem? (i := 101) (by decide +kernel))
theorem qw_620 : Cond.fieldLink RX3 63 "ChanceRings$Net" "nodes" "I" ∈ wsL_law := tseg_1 (by decide +kernel) (List.mem_of_getElem? (i := 59) (by decide +kernel))
theorem qw_621 : Cond.fieldLink RX3 25 "ChanceRings$Outcome" "reach" "[I" ∈ wsL_law := tseg_2 (by decide +kernel) (List.mem_of_getElem? (i := 109) (by decide +kernel))
theorem qw_622 : Cond.fieldLink RX3 35 "ChanceRings$Outcome" "solver" "LChanceRings$Solver;" ∈ wsL_law := tseg_2 (by decide +kernel) (List.mem_of_getElem? (i := 102) (by decide +kernel))
theorem qw_623 : Cond.fieldLink RX3 73 "ChanceRings$Solver" "course" "LChanceRings$Course;" ∈ wsL_law := tseg_2 (by decide +kernel) (List.mem_of_getElem? (i := 63) (by decide +kernel))
theorem qw_624 : Cond.fieldLink RX3 9 "ChanceRings$Outcome" "plan" "[I" ∈ wsL_law := tseg_2 (by decide +kernel) (List.mem_of_getElem? (i := 103) (by decide +kernel))
theorem qw_625 : Cond.methodLink RX3 83 yX0_follow ∈ wsL_law := tseg_3 (by decide +kernel) (List.mem_of_getElem? (i := 204) (by decide +kernel))
theorem qw_626 : Cond.fieldLink RX3 96 "ChanceRings$Net" "kind" "[I" ∈ wsL_law := tseg_1 (by decide +kernel) (List.mem_of_getElem? (i := 67) (by decide +kernel))
theorem qw_627 : Cond.fieldLink RX3 90 "ChanceRings$Outcome" "ringNodes" "I" ∈ wsL_law := tseg_2 (by decide +kernel) (List.mem_of_getElem? (i := 114) (by decide +kernel))
theorem qw_628 : Cond.fieldLink RX3 87 "ChanceRings$Outcome" "ringCount" "I" ∈ wsL_law := tseg_2 (by decide +kernel) (List.mem_of_getElem? (i := 112) (by decide +kernel))
theorem qw_629 : Cond.methodLink RX3 93 yX3_comesBack ∈ wsL_law := tseg_3 (by decide +kernel) (List.mem_of_getElem? (i := 209) (by decide +kernel))
theorem qw_630 : Cond.instanceMethod yX3_comesBack ∈ wsL_law := tseg_3 (by decide +kernel) (List.mem_of_getElem? (i := 211) (by decide +kernel))
theorem qw_631 : Cond.selects RX3 yX3_comesBack yX3_comesBack ∈ wsL_law := List.mem_filter.mpr ⟨List.mem_append_left _ (List.mem_of_getElem? (i := 30) (by decide +kernel)), by decide +kernel⟩
theorem qw_632 : Cond.initialized RX3 ∈ wsL_law := tseg_1 (by decide +kernel) (List.mem_of_getElem? (i := 15) (by decide +kernel))
theorem qw_633 : Cond.code yX3_comesBack cX3_comesBack 3 (some .boolean) ∈ wsL_law := tseg_3 (by decide +kernel) (List.mem_of_getElem? (i := 212) (by decide +kernel))
theorem qw_634 : Cond.fieldLink RX3 28 "ChanceRings$Outcome" "ringBits" "[I" ∈ wsL_law := tseg_2 (by decide +kernel) (List.mem_of_getElem? (i := 110) (by decide +kernel))
theorem qw_635 : Cond.fieldLink RX3 18 "ChanceRings$Outcome" "worth" "LChanceRings$Values;" ∈ wsL_law := tseg_2 (by decide +kernel) (List.mem_of_getElem? (i := 105) (by decide +kernel))
theorem qw_636 : Cond.fieldLink RX3 99 "ChanceRings$Values" "part" "[J" ∈ wsL_law := tseg_2 (by decide +kernel) (List.mem_of_getElem? (i := 89) (by decide +kernel))
theorem qw_637 : Cond.methodLink RX3 103 yX3_countAhead ∈ wsL_law := tseg_4 (by decide +kernel) (List.mem_of_getElem? (i := 97) (by decide +kernel))
theorem qw_638 : Cond.instanceMethod yX3_countAhead ∈ wsL_law := tseg_4 (by decide +kernel) (List.mem_of_getElem? (i := 99) (by decide +kernel))
theorem qw_639 : Cond.selects RX3 yX3_countAhead yX3_countAhead ∈ wsL_law := List.mem_filter.mpr ⟨List.mem_append_left _ (List.mem_of_getElem? (i := 35) (by decide +kernel)), by decide +kernel⟩
theorem qw_640 : Cond.code yX3_countAhead cX3_countAhead 4 (some .int) ∈ wsL_law := tseg_4 (by decide +kernel) (List.mem_of_getElem? (i := 100) (by decide +kernel))
theorem qw_641 : Cond.methodLink RX3 115 yX2_together ∈ wsL_law := tseg_4 (by decide +kernel) (List.mem_of_getElem? (i := 160) (by decide +kernel))
theorem qw_642 : Cond.fieldLink RX3 118 "ChanceRings$Net" "ways" "[I" ∈ wsL_law := tseg_1 (by decide +kernel) (List.mem_of_getElem? (i := 84) (by decide +kernel))
theorem qw_643 : Cond.methodLink RX3 121 yX2_weight ∈ wsL_law := tseg_4 (by decide +kernel) (List.mem_of_getElem? (i := 161) (by decide +kernel))
theorem qw_644 : Cond.methodLink RX3 112 yX2_target ∈ wsL_law := tseg_4 (by decide +kernel) (List.mem_of_getElem? (i := 162) (by decide +kernel))
theorem qw_645 : Cond.constant RX3 107 (1103515245) ∈ wsL_law := tseg_4 (by decide +kernel) (List.mem_of_getElem? (i := 155) (by decide +kernel))
theorem qw_646 : Cond.methodLink RX3 108 yX3_drawnWay ∈ wsL_law := tseg_4 (by decide +kernel) (List.mem_of_getElem? (i := 156) (by decide +kernel))
theorem qw_647 : Cond.instanceMethod yX3_drawnWay ∈ wsL_law := tseg_4 (by decide +kernel) (List.mem_of_getElem? (i := 158) (by decide +kernel))
theorem qw_648 : Cond.selects RX3 yX3_drawnWay yX3_drawnWay ∈ wsL_law := List.mem_filter.mpr ⟨List.mem_append_left _ (List.mem_of_getElem? (i := 41) (by decide +kernel)), by decide +kernel⟩
theorem qw_649 : Cond.code yX3_drawnWay cX3_drawnWay 7 (some .int) ∈ wsL_law := tseg_4 (by decide +kernel) (List.mem_of_getElem? (i := 159) (by decide +kernel))
theorem qw_650 : Cond.fieldLink RX3 39 "ChanceRings$Outcome" "settled" "Z" ∈ wsL_law := tseg_2 (by decide +kernel) (List.mem_of_getElem? (i := 115) (by decide +kernel))
theorem qw_651 : Cond.methodLink RX3 43 yX6_firstWays ∈ wsL_law := tseg_3 (by decide +kernel) (List.mem_of_getElem? (i := 92) (by decide +kernel))
theorem qw_652 : Cond.instanceMethod yX6_firstWays ∈ wsL_law := tseg_3 (by decide +kernel) (List.mem_of_getElem? (i := 69) (by decide +kernel))
theorem qw_653 : Cond.selects RX6 yX6_firstWays yX6_firstWays ∈ wsL_law := tseg_3 (by decide +kernel) (List.mem_of_getElem? (i := 70) (by decide +kernel))
theorem qw_654 : Cond.code yX6_firstWays cX6_firstWays 3 none ∈ wsL_law := tseg_3 (by decide +kernel) (List.mem_of_getElem? (i := 71) (by decide +kernel))
theorem qw_655 : Cond.methodLink RX3 49 yX6_findWorth ∈ wsL_law := tseg_3 (by decide +kernel) (List.mem_of_getElem? (i := 93) (by decide +kernel))
theorem qw_656 : Cond.instanceMethod yX6_findWorth ∈ wsL_law := tseg_3 (by decide +kernel) (List.mem_of_getElem? (i := 94) (by decide +kernel))
theorem qw_657 : Cond.selects RX6 yX6_findWorth yX6_findWorth ∈ wsL_law := tseg_3 (by decide +kernel) (List.mem_of_getElem? (i := 95) (by decide +kernel))
theorem qw_658 : Cond.code yX6_findWorth cX6_findWorth 7 none ∈ wsL_law := tseg_3 (by decide +kernel) (List.mem_of_getElem? (i := 96) (by decide +kernel))
theorem qw_659 : Cond.methodLink RX3 53 yX6_findBest ∈ wsL_law := tseg_3 (by decide +kernel) (List.mem_of_getElem? (i := 176) (by decide +kernel))
theorem qw_660 : Cond.instanceMethod yX6_findBest ∈ wsL_law := tseg_3 (by decide +kernel) (List.mem_of_getElem? (i := 177) (by decide +kernel))
theorem qw_661 : Cond.selects RX6 yX6_findBest yX6_findBest ∈ wsL_law := tseg_3 (by decide +kernel) (List.mem_of_getElem? (i := 178) (by decide +kernel))
theorem qw_662 : Cond.code yX6_findBest cX6_findBest 4 none ∈ wsL_law := tseg_3 (by decide +kernel) (List.mem_of_getElem? (i := 179) (by decide +kernel))
theorem qw_663 : Cond.methodLink RX3 57 yX3_findReach ∈ wsL_law := tseg_3 (by decide +kernel) (List.mem_of_getElem? (i := 200) (by decide +kernel))
theorem qw_664 : Cond.instanceMethod yX3_findReach ∈ wsL_law := tseg_3 (by decide +kernel) (List.mem_of_getElem? (i := 202) (by decide +kernel))
theorem qw_665 : Cond.selects RX3 yX3_findReach yX3_findReach ∈ wsL_law := List.mem_filter.mpr ⟨List.mem_append_left _ (List.mem_of_getElem? (i := 28) (by decide +kernel)), by decide +kernel⟩
theorem qw_666 : Cond.code yX3_findReach cX3_findReach 3 none ∈ wsL_law := tseg_3 (by decide +kernel) (List.mem_of_getElem? (i := 203) (by decide +kernel))
theorem qw_667 : Cond.methodLink RX3 60 yX3_findRings ∈ wsL_law := tseg_3 (by decide +kernel) (List.mem_of_getElem? (i := 205) (by decide +kernel))
theorem qw_668 : Cond.instanceMethod yX3_findRings ∈ wsL_law := tseg_3 (by decide +kernel) (List.mem_of_getElem? (i := 207) (by decide +kernel))
theorem qw_669 : Cond.selects RX3 yX3_findRings yX3_findRings ∈ wsL_law := List.mem_filter.mpr ⟨List.mem_append_left _ (List.mem_of_getElem? (i := 29) (by decide +kernel)), by decide +kernel⟩
theorem qw_670 : Cond.code yX3_findRings cX3_findRings 2 none ∈ wsL_law := tseg_3 (by decide +kernel) (List.mem_of_getElem? (i := 208) (by decide +kernel))
theorem qw_671 : Cond.fieldLink RX3 22 "ChanceRings$Outcome" "length" "LChanceRings$Values;" ∈ wsL_law := tseg_2 (by decide +kernel) (List.mem_of_getElem? (i := 107) (by decide +kernel))
theorem qw_672 : Cond.methodLink RX3 77 yX0_expectMoves ∈ wsL_law := tseg_3 (by decide +kernel) (List.mem_of_getElem? (i := 217) (by decide +kernel))
theorem qw_673 : Cond.instanceMethod yX0_expectMoves ∈ wsL_law := tseg_3 (by decide +kernel) (List.mem_of_getElem? (i := 218) (by decide +kernel))
theorem qw_674 : Cond.selects RX0 yX0_expectMoves yX0_expectMoves ∈ wsL_law := tseg_3 (by decide +kernel) (List.mem_of_getElem? (i := 219) (by decide +kernel))
theorem qw_675 : Cond.code yX0_expectMoves cX0_expectMoves 6 none ∈ wsL_law := tseg_3 (by decide +kernel) (List.mem_of_getElem? (i := 220) (by decide +kernel))
theorem qw_676 : Cond.methodLink RX3 69 yX3_comesToRing ∈ wsL_law := tseg_3 (by decide +kernel) (List.mem_of_getElem? (i := 213) (by decide +kernel))
theorem qw_677 : Cond.instanceMethod yX3_comesToRing ∈ wsL_law := tseg_3 (by decide +kernel) (List.mem_of_getElem? (i := 214) (by decide +kernel))
theorem qw_678 : Cond.selects RX3 yX3_comesToRing yX3_comesToRing ∈ wsL_law := tseg_3 (by decide +kernel) (List.mem_of_getElem? (i := 215) (by decide +kernel))
theorem qw_679 : Cond.code yX3_comesToRing cX3_comesToRing 2 (some .boolean) ∈ wsL_law := tseg_3 (by decide +kernel) (List.mem_of_getElem? (i := 216) (by decide +kernel))
theorem dX3_comesBack_0 : decode cX3_comesBack 0 = .ok (.iconst 0, 1) := by decide +kernel
theorem dX3_comesBack_1 : decode cX3_comesBack 1 = .ok (.istore_n 2, 1) := by decide +kernel
theorem dX3_comesBack_2 : decode cX3_comesBack 2 = .ok (.iload_n 2, 1) := by decide +kernel
theorem dX3_comesBack_3 : decode cX3_comesBack 3 = .ok (.aload_n 0, 1) := by decide +kernel
theorem dX3_comesBack_4 : decode cX3_comesBack 4 = .ok (.getfield 31, 3) := by decide +kernel
theorem dX3_comesBack_7 : decode cX3_comesBack 7 = .ok (.getfield 63, 3) := by decide +kernel
theorem dX3_comesBack_10 : decode cX3_comesBack 10 = .ok (.if_icmp .ge 37, 3) := by decide +kernel
theorem dX3_comesBack_13 : decode cX3_comesBack 13 = .ok (.aload_n 0, 1) := by decide +kernel
theorem dX3_comesBack_14 : decode cX3_comesBack 14 = .ok (.getfield 25, 3) := by decide +kernel
theorem dX3_comesBack_17 : decode cX3_comesBack 17 = .ok (.iload_n 1, 1) := by decide +kernel
theorem dX3_comesBack_18 : decode cX3_comesBack 18 = .ok (.iaload, 1) := by decide +kernel
theorem dX3_comesBack_19 : decode cX3_comesBack 19 = .ok (.iload_n 2, 1) := by decide +kernel
theorem dX3_comesBack_20 : decode cX3_comesBack 20 = .ok (.ishr, 1) := by decide +kernel
theorem dX3_comesBack_21 : decode cX3_comesBack 21 = .ok (.iconst 1, 1) := by decide +kernel
theorem dX3_comesBack_22 : decode cX3_comesBack 22 = .ok (.iand, 1) := by decide +kernel
theorem dX3_comesBack_23 : decode cX3_comesBack 23 = .ok (.ifCond .eq 18, 3) := by decide +kernel
theorem dX3_comesBack_26 : decode cX3_comesBack 26 = .ok (.aload_n 0, 1) := by decide +kernel
theorem dX3_comesBack_27 : decode cX3_comesBack 27 = .ok (.getfield 25, 3) := by decide +kernel
theorem dX3_comesBack_30 : decode cX3_comesBack 30 = .ok (.iload_n 2, 1) := by decide +kernel
theorem dX3_comesBack_31 : decode cX3_comesBack 31 = .ok (.iaload, 1) := by decide +kernel
theorem dX3_comesBack_32 : decode cX3_comesBack 32 = .ok (.iload_n 1, 1) := by decide +kernel
theorem dX3_comesBack_33 : decode cX3_comesBack 33 = .ok (.ishr, 1) := by decide +kernel
theorem dX3_comesBack_34 : decode cX3_comesBack 34 = .ok (.iconst 1, 1) := by decide +kernel
theorem dX3_comesBack_35 : decode cX3_comesBack 35 = .ok (.iand, 1) := by decide +kernel
theorem dX3_comesBack_36 : decode cX3_comesBack 36 = .ok (.ifCond .ne 5, 3) := by decide +kernel
theorem dX3_comesBack_39 : decode cX3_comesBack 39 = .ok (.iconst 0, 1) := by decide +kernel
theorem dX3_comesBack_40 : decode cX3_comesBack 40 = .ok (.ireturn, 1) := by decide +kernel
theorem dX3_comesBack_41 : decode cX3_comesBack 41 = .ok (.iinc 2 1, 3) := by decide +kernel
theorem dX3_comesBack_44 : decode cX3_comesBack 44 = .ok (.goto (-42), 3) := by decide +kernel
theorem dX3_comesBack_47 : decode cX3_comesBack 47 = .ok (.aload_n 0, 1) := by decide +kernel
theorem dX3_comesBack_48 : decode cX3_comesBack 48 = .ok (.getfield 31, 3) := by decide +kernel
theorem dX3_comesBack_51 : decode cX3_comesBack 51 = .ok (.getfield 96, 3) := by decide +kernel
theorem dX3_comesBack_54 : decode cX3_comesBack 54 = .ok (.iload_n 1, 1) := by decide +kernel
theorem dX3_comesBack_55 : decode cX3_comesBack 55 = .ok (.iaload, 1) := by decide +kernel
theorem dX3_comesBack_56 : decode cX3_comesBack 56 = .ok (.ifCond .eq 7, 3) := by decide +kernel
theorem dX3_comesBack_59 : decode cX3_comesBack 59 = .ok (.iconst 1, 1) := by decide +kernel
theorem dX3_comesBack_60 : decode cX3_comesBack 60 = .ok (.goto 4, 3) := by decide +kernel
theorem dX3_comesBack_63 : decode cX3_comesBack 63 = .ok (.iconst 0, 1) := by decide +kernel
theorem dX3_comesBack_64 : decode cX3_comesBack 64 = .ok (.ireturn, 1) := by decide +kernel
theorem dX3_comesToRing_0 : decode cX3_comesToRing 0 = .ok (.aload_n 0, 1) := by decide +kernel
theorem dX3_comesToRing_1 : decode cX3_comesToRing 1 = .ok (.getfield 25, 3) := by decide +kernel
theorem dX3_comesToRing_4 : decode cX3_comesToRing 4 = .ok (.iload_n 1, 1) := by decide +kernel
theorem dX3_comesToRing_5 : decode cX3_comesToRing 5 = .ok (.iaload, 1) := by decide +kernel
theorem dX3_comesToRing_6 : decode cX3_comesToRing 6 = .ok (.aload_n 0, 1) := by decide +kernel
theorem dX3_comesToRing_7 : decode cX3_comesToRing 7 = .ok (.getfield 90, 3) := by decide +kernel
theorem dX3_comesToRing_10 : decode cX3_comesToRing 10 = .ok (.iand, 1) := by decide +kernel
theorem dX3_comesToRing_11 : decode cX3_comesToRing 11 = .ok (.ifCond .eq 7, 3) := by decide +kernel
theorem dX3_comesToRing_14 : decode cX3_comesToRing 14 = .ok (.iconst 1, 1) := by decide +kernel
theorem dX3_comesToRing_15 : decode cX3_comesToRing 15 = .ok (.goto 4, 3) := by decide +kernel
theorem dX3_comesToRing_18 : decode cX3_comesToRing 18 = .ok (.iconst 0, 1) := by decide +kernel
theorem dX3_comesToRing_19 : decode cX3_comesToRing 19 = .ok (.ireturn, 1) := by decide +kernel
theorem dX3_countAhead_0 : decode cX3_countAhead 0 = .ok (.iconst 0, 1) := by decide +kernel
theorem dX3_countAhead_1 : decode cX3_countAhead 1 = .ok (.istore_n 2, 1) := by decide +kernel
theorem dX3_countAhead_2 : decode cX3_countAhead 2 = .ok (.iconst 0, 1) := by decide +kernel
theorem dX3_countAhead_3 : decode cX3_countAhead 3 = .ok (.istore_n 3, 1) := by decide +kernel
theorem dX3_countAhead_4 : decode cX3_countAhead 4 = .ok (.iload_n 3, 1) := by decide +kernel
theorem dX3_countAhead_5 : decode cX3_countAhead 5 = .ok (.aload_n 0, 1) := by decide +kernel
theorem dX3_countAhead_6 : decode cX3_countAhead 6 = .ok (.getfield 31, 3) := by decide +kernel
theorem dX3_countAhead_9 : decode cX3_countAhead 9 = .ok (.getfield 63, 3) := by decide +kernel
theorem dX3_countAhead_12 : decode cX3_countAhead 12 = .ok (.if_icmp .ge 61, 3) := by decide +kernel
theorem dX3_countAhead_15 : decode cX3_countAhead 15 = .ok (.aload_n 0, 1) := by decide +kernel
theorem dX3_countAhead_16 : decode cX3_countAhead 16 = .ok (.getfield 18, 3) := by decide +kernel
theorem dX3_countAhead_19 : decode cX3_countAhead 19 = .ok (.getfield 99, 3) := by decide +kernel
theorem dX3_countAhead_22 : decode cX3_countAhead 22 = .ok (.iload_n 3, 1) := by decide +kernel
theorem dX3_countAhead_23 : decode cX3_countAhead 23 = .ok (.laload, 1) := by decide +kernel
theorem dX3_countAhead_24 : decode cX3_countAhead 24 = .ok (.aload_n 0, 1) := by decide +kernel
theorem dX3_countAhead_25 : decode cX3_countAhead 25 = .ok (.getfield 18, 3) := by decide +kernel
theorem dX3_countAhead_28 : decode cX3_countAhead 28 = .ok (.getfield 99, 3) := by decide +kernel
theorem dX3_countAhead_31 : decode cX3_countAhead 31 = .ok (.iload_n 1, 1) := by decide +kernel
theorem dX3_countAhead_32 : decode cX3_countAhead 32 = .ok (.laload, 1) := by decide +kernel
theorem dX3_countAhead_33 : decode cX3_countAhead 33 = .ok (.lcmp, 1) := by decide +kernel
theorem dX3_countAhead_34 : decode cX3_countAhead 34 = .ok (.ifCond .gt 30, 3) := by decide +kernel
theorem dX3_countAhead_37 : decode cX3_countAhead 37 = .ok (.aload_n 0, 1) := by decide +kernel
theorem dX3_countAhead_38 : decode cX3_countAhead 38 = .ok (.getfield 18, 3) := by decide +kernel
theorem dX3_countAhead_41 : decode cX3_countAhead 41 = .ok (.getfield 99, 3) := by decide +kernel
theorem dX3_countAhead_44 : decode cX3_countAhead 44 = .ok (.iload_n 3, 1) := by decide +kernel
theorem dX3_countAhead_45 : decode cX3_countAhead 45 = .ok (.laload, 1) := by decide +kernel
theorem dX3_countAhead_46 : decode cX3_countAhead 46 = .ok (.aload_n 0, 1) := by decide +kernel
theorem dX3_countAhead_47 : decode cX3_countAhead 47 = .ok (.getfield 18, 3) := by decide +kernel
theorem dX3_countAhead_50 : decode cX3_countAhead 50 = .ok (.getfield 99, 3) := by decide +kernel
theorem dX3_countAhead_53 : decode cX3_countAhead 53 = .ok (.iload_n 1, 1) := by decide +kernel
theorem dX3_countAhead_54 : decode cX3_countAhead 54 = .ok (.laload, 1) := by decide +kernel
theorem dX3_countAhead_55 : decode cX3_countAhead 55 = .ok (.lcmp, 1) := by decide +kernel
theorem dX3_countAhead_56 : decode cX3_countAhead 56 = .ok (.ifCond .ne 11, 3) := by decide +kernel
theorem dX3_countAhead_59 : decode cX3_countAhead 59 = .ok (.iload_n 3, 1) := by decide +kernel
theorem dX3_countAhead_60 : decode cX3_countAhead 60 = .ok (.iload_n 1, 1) := by decide +kernel
theorem dX3_countAhead_61 : decode cX3_countAhead 61 = .ok (.if_icmp .ge 6, 3) := by decide +kernel
theorem dX3_countAhead_64 : decode cX3_countAhead 64 = .ok (.iinc 2 1, 3) := by decide +kernel
theorem dX3_countAhead_67 : decode cX3_countAhead 67 = .ok (.iinc 3 1, 3) := by decide +kernel
theorem dX3_countAhead_70 : decode cX3_countAhead 70 = .ok (.goto (-66), 3) := by decide +kernel
theorem dX3_countAhead_73 : decode cX3_countAhead 73 = .ok (.iload_n 2, 1) := by decide +kernel
theorem dX3_countAhead_74 : decode cX3_countAhead 74 = .ok (.ireturn, 1) := by decide +kernel
theorem dX3_drawnWay_0 : decode cX3_drawnWay 0 = .ok (.aload_n 0, 1) := by decide +kernel
theorem dX3_drawnWay_1 : decode cX3_drawnWay 1 = .ok (.getfield 31, 3) := by decide +kernel
theorem dX3_drawnWay_4 : decode cX3_drawnWay 4 = .ok (.iload_n 1, 1) := by decide +kernel
theorem dX3_drawnWay_5 : decode cX3_drawnWay 5 = .ok (.invokevirtual 115, 3) := by decide +kernel
theorem dX3_drawnWay_8 : decode cX3_drawnWay 8 = .ok (.istore_n 3, 1) := by decide +kernel
theorem dX3_drawnWay_9 : decode cX3_drawnWay 9 = .ok (.iload_n 3, 1) := by decide +kernel
theorem dX3_drawnWay_10 : decode cX3_drawnWay 10 = .ok (.ifCond .ne 7, 3) := by decide +kernel
theorem dX3_drawnWay_13 : decode cX3_drawnWay 13 = .ok (.iconst 0, 1) := by decide +kernel
theorem dX3_drawnWay_14 : decode cX3_drawnWay 14 = .ok (.goto 6, 3) := by decide +kernel
theorem dX3_drawnWay_17 : decode cX3_drawnWay 17 = .ok (.iload_n 2, 1) := by decide +kernel
theorem dX3_drawnWay_18 : decode cX3_drawnWay 18 = .ok (.iload_n 3, 1) := by decide +kernel
theorem dX3_drawnWay_19 : decode cX3_drawnWay 19 = .ok (.irem, 1) := by decide +kernel
theorem dX3_drawnWay_20 : decode cX3_drawnWay 20 = .ok (.istore 4, 2) := by decide +kernel
theorem dX3_drawnWay_22 : decode cX3_drawnWay 22 = .ok (.iconst 0, 1) := by decide +kernel
theorem dX3_drawnWay_23 : decode cX3_drawnWay 23 = .ok (.istore 5, 2) := by decide +kernel
theorem dX3_drawnWay_25 : decode cX3_drawnWay 25 = .ok (.iconst 0, 1) := by decide +kernel
theorem dX3_drawnWay_26 : decode cX3_drawnWay 26 = .ok (.istore 6, 2) := by decide +kernel
theorem dX3_drawnWay_28 : decode cX3_drawnWay 28 = .ok (.iload 6, 2) := by decide +kernel
theorem dX3_drawnWay_30 : decode cX3_drawnWay 30 = .ok (.aload_n 0, 1) := by decide +kernel
theorem dX3_drawnWay_31 : decode cX3_drawnWay 31 = .ok (.getfield 31, 3) := by decide +kernel
theorem dX3_drawnWay_34 : decode cX3_drawnWay 34 = .ok (.getfield 118, 3) := by decide +kernel
theorem dX3_drawnWay_37 : decode cX3_drawnWay 37 = .ok (.iload_n 1, 1) := by decide +kernel
theorem dX3_drawnWay_38 : decode cX3_drawnWay 38 = .ok (.iaload, 1) := by decide +kernel
theorem dX3_drawnWay_39 : decode cX3_drawnWay 39 = .ok (.if_icmp .ge 34, 3) := by decide +kernel
theorem dX3_drawnWay_42 : decode cX3_drawnWay 42 = .ok (.iload 5, 2) := by decide +kernel
theorem dX3_drawnWay_44 : decode cX3_drawnWay 44 = .ok (.aload_n 0, 1) := by decide +kernel
theorem dX3_drawnWay_45 : decode cX3_drawnWay 45 = .ok (.getfield 31, 3) := by decide +kernel
theorem dX3_drawnWay_48 : decode cX3_drawnWay 48 = .ok (.iload_n 1, 1) := by decide +kernel
theorem dX3_drawnWay_49 : decode cX3_drawnWay 49 = .ok (.iload 6, 2) := by decide +kernel
theorem dX3_drawnWay_51 : decode cX3_drawnWay 51 = .ok (.invokevirtual 121, 3) := by decide +kernel
theorem dX3_drawnWay_54 : decode cX3_drawnWay 54 = .ok (.iadd, 1) := by decide +kernel
theorem dX3_drawnWay_55 : decode cX3_drawnWay 55 = .ok (.istore 5, 2) := by decide +kernel
theorem dX3_drawnWay_57 : decode cX3_drawnWay 57 = .ok (.iload 5, 2) := by decide +kernel
theorem dX3_drawnWay_59 : decode cX3_drawnWay 59 = .ok (.iload 4, 2) := by decide +kernel
theorem dX3_drawnWay_61 : decode cX3_drawnWay 61 = .ok (.if_icmp .le 6, 3) := by decide +kernel
theorem dX3_drawnWay_64 : decode cX3_drawnWay 64 = .ok (.iload 6, 2) := by decide +kernel
theorem dX3_drawnWay_66 : decode cX3_drawnWay 66 = .ok (.ireturn, 1) := by decide +kernel
theorem dX3_drawnWay_67 : decode cX3_drawnWay 67 = .ok (.iinc 6 1, 3) := by decide +kernel
theorem dX3_drawnWay_70 : decode cX3_drawnWay 70 = .ok (.goto (-42), 3) := by decide +kernel
theorem dX3_drawnWay_73 : decode cX3_drawnWay 73 = .ok (.iconst 0, 1) := by decide +kernel
theorem dX3_drawnWay_74 : decode cX3_drawnWay 74 = .ok (.ireturn, 1) := by decide +kernel
theorem dX3_findReach_0 : decode cX3_findReach 0 = .ok (.iconst 0, 1) := by decide +kernel
theorem dX3_findReach_1 : decode cX3_findReach 1 = .ok (.istore_n 1, 1) := by decide +kernel
theorem dX3_findReach_2 : decode cX3_findReach 2 = .ok (.iload_n 1, 1) := by decide +kernel
theorem dX3_findReach_3 : decode cX3_findReach 3 = .ok (.aload_n 0, 1) := by decide +kernel
theorem dX3_findReach_4 : decode cX3_findReach 4 = .ok (.getfield 31, 3) := by decide +kernel
theorem dX3_findReach_7 : decode cX3_findReach 7 = .ok (.getfield 63, 3) := by decide +kernel
theorem dX3_findReach_10 : decode cX3_findReach 10 = .ok (.if_icmp .ge 34, 3) := by decide +kernel
theorem dX3_findReach_13 : decode cX3_findReach 13 = .ok (.aload_n 0, 1) := by decide +kernel
theorem dX3_findReach_14 : decode cX3_findReach 14 = .ok (.getfield 25, 3) := by decide +kernel
theorem dX3_findReach_17 : decode cX3_findReach 17 = .ok (.iload_n 1, 1) := by decide +kernel
theorem dX3_findReach_18 : decode cX3_findReach 18 = .ok (.iconst 1, 1) := by decide +kernel
theorem dX3_findReach_19 : decode cX3_findReach 19 = .ok (.iload_n 1, 1) := by decide +kernel
theorem dX3_findReach_20 : decode cX3_findReach 20 = .ok (.ishl, 1) := by decide +kernel
theorem dX3_findReach_21 : decode cX3_findReach 21 = .ok (.aload_n 0, 1) := by decide +kernel
theorem dX3_findReach_22 : decode cX3_findReach 22 = .ok (.getfield 35, 3) := by decide +kernel
theorem dX3_findReach_25 : decode cX3_findReach 25 = .ok (.getfield 73, 3) := by decide +kernel
theorem dX3_findReach_28 : decode cX3_findReach 28 = .ok (.aload_n 0, 1) := by decide +kernel
theorem dX3_findReach_29 : decode cX3_findReach 29 = .ok (.getfield 9, 3) := by decide +kernel
theorem dX3_findReach_32 : decode cX3_findReach 32 = .ok (.iload_n 1, 1) := by decide +kernel
theorem dX3_findReach_33 : decode cX3_findReach 33 = .ok (.invokevirtual 83, 3) := by decide +kernel
theorem dX3_findReach_36 : decode cX3_findReach 36 = .ok (.ior, 1) := by decide +kernel
theorem dX3_findReach_37 : decode cX3_findReach 37 = .ok (.iastore, 1) := by decide +kernel
theorem dX3_findReach_38 : decode cX3_findReach 38 = .ok (.iinc 1 1, 3) := by decide +kernel
theorem dX3_findReach_41 : decode cX3_findReach 41 = .ok (.goto (-39), 3) := by decide +kernel
theorem dX3_findReach_44 : decode cX3_findReach 44 = .ok (.iconst 0, 1) := by decide +kernel
theorem dX3_findReach_45 : decode cX3_findReach 45 = .ok (.istore_n 1, 1) := by decide +kernel
theorem dX3_findReach_46 : decode cX3_findReach 46 = .ok (.iload_n 1, 1) := by decide +kernel
theorem dX3_findReach_47 : decode cX3_findReach 47 = .ok (.aload_n 0, 1) := by decide +kernel
theorem dX3_findReach_48 : decode cX3_findReach 48 = .ok (.getfield 31, 3) := by decide +kernel
theorem dX3_findReach_51 : decode cX3_findReach 51 = .ok (.getfield 63, 3) := by decide +kernel
theorem dX3_findReach_54 : decode cX3_findReach 54 = .ok (.if_icmp .ge 56, 3) := by decide +kernel
theorem dX3_findReach_57 : decode cX3_findReach 57 = .ok (.iconst 0, 1) := by decide +kernel
theorem dX3_findReach_58 : decode cX3_findReach 58 = .ok (.istore_n 2, 1) := by decide +kernel
theorem dX3_findReach_59 : decode cX3_findReach 59 = .ok (.iload_n 2, 1) := by decide +kernel
theorem dX3_findReach_60 : decode cX3_findReach 60 = .ok (.aload_n 0, 1) := by decide +kernel
theorem dX3_findReach_61 : decode cX3_findReach 61 = .ok (.getfield 31, 3) := by decide +kernel
theorem dX3_findReach_64 : decode cX3_findReach 64 = .ok (.getfield 63, 3) := by decide +kernel
theorem dX3_findReach_67 : decode cX3_findReach 67 = .ok (.if_icmp .ge 37, 3) := by decide +kernel
theorem dX3_findReach_70 : decode cX3_findReach 70 = .ok (.aload_n 0, 1) := by decide +kernel
theorem dX3_findReach_71 : decode cX3_findReach 71 = .ok (.getfield 25, 3) := by decide +kernel
theorem dX3_findReach_74 : decode cX3_findReach 74 = .ok (.iload_n 2, 1) := by decide +kernel
theorem dX3_findReach_75 : decode cX3_findReach 75 = .ok (.iaload, 1) := by decide +kernel
theorem dX3_findReach_76 : decode cX3_findReach 76 = .ok (.iload_n 1, 1) := by decide +kernel
theorem dX3_findReach_77 : decode cX3_findReach 77 = .ok (.ishr, 1) := by decide +kernel
theorem dX3_findReach_78 : decode cX3_findReach 78 = .ok (.iconst 1, 1) := by decide +kernel
theorem dX3_findReach_79 : decode cX3_findReach 79 = .ok (.iand, 1) := by decide +kernel
theorem dX3_findReach_80 : decode cX3_findReach 80 = .ok (.ifCond .eq 18, 3) := by decide +kernel
theorem dX3_findReach_83 : decode cX3_findReach 83 = .ok (.aload_n 0, 1) := by decide +kernel
theorem dX3_findReach_84 : decode cX3_findReach 84 = .ok (.getfield 25, 3) := by decide +kernel
theorem dX3_findReach_87 : decode cX3_findReach 87 = .ok (.iload_n 2, 1) := by decide +kernel
theorem dX3_findReach_88 : decode cX3_findReach 88 = .ok (.dup2, 1) := by decide +kernel
theorem dX3_findReach_89 : decode cX3_findReach 89 = .ok (.iaload, 1) := by decide +kernel
theorem dX3_findReach_90 : decode cX3_findReach 90 = .ok (.aload_n 0, 1) := by decide +kernel
theorem dX3_findReach_91 : decode cX3_findReach 91 = .ok (.getfield 25, 3) := by decide +kernel
theorem dX3_findReach_94 : decode cX3_findReach 94 = .ok (.iload_n 1, 1) := by decide +kernel
theorem dX3_findReach_95 : decode cX3_findReach 95 = .ok (.iaload, 1) := by decide +kernel
theorem dX3_findReach_96 : decode cX3_findReach 96 = .ok (.ior, 1) := by decide +kernel
theorem dX3_findReach_97 : decode cX3_findReach 97 = .ok (.iastore, 1) := by decide +kernel
theorem dX3_findReach_98 : decode cX3_findReach 98 = .ok (.iinc 2 1, 3) := by decide +kernel
theorem dX3_findReach_101 : decode cX3_findReach 101 = .ok (.goto (-42), 3) := by decide +kernel
theorem dX3_findReach_104 : decode cX3_findReach 104 = .ok (.iinc 1 1, 3) := by decide +kernel
theorem dX3_findReach_107 : decode cX3_findReach 107 = .ok (.goto (-61), 3) := by decide +kernel
theorem dX3_findReach_110 : decode cX3_findReach 110 = .ok (.return_, 1) := by decide +kernel
theorem dX3_findRings_0 : decode cX3_findRings 0 = .ok (.aload_n 0, 1) := by decide +kernel
theorem dX3_findRings_1 : decode cX3_findRings 1 = .ok (.iconst 0, 1) := by decide +kernel
theorem dX3_findRings_2 : decode cX3_findRings 2 = .ok (.putfield 87, 3) := by decide +kernel
theorem dX3_findRings_5 : decode cX3_findRings 5 = .ok (.aload_n 0, 1) := by decide +kernel
theorem dX3_findRings_6 : decode cX3_findRings 6 = .ok (.iconst 0, 1) := by decide +kernel
theorem dX3_findRings_7 : decode cX3_findRings 7 = .ok (.putfield 90, 3) := by decide +kernel
theorem dX3_findRings_10 : decode cX3_findRings 10 = .ok (.iconst 0, 1) := by decide +kernel
theorem dX3_findRings_11 : decode cX3_findRings 11 = .ok (.istore_n 1, 1) := by decide +kernel
theorem dX3_findRings_12 : decode cX3_findRings 12 = .ok (.iload_n 1, 1) := by decide +kernel
theorem dX3_findRings_13 : decode cX3_findRings 13 = .ok (.aload_n 0, 1) := by decide +kernel
theorem dX3_findRings_14 : decode cX3_findRings 14 = .ok (.getfield 31, 3) := by decide +kernel
theorem dX3_findRings_17 : decode cX3_findRings 17 = .ok (.getfield 63, 3) := by decide +kernel
theorem dX3_findRings_20 : decode cX3_findRings 20 = .ok (.if_icmp .ge 68, 3) := by decide +kernel
theorem dX3_findRings_23 : decode cX3_findRings 23 = .ok (.aload_n 0, 1) := by decide +kernel
theorem dX3_findRings_24 : decode cX3_findRings 24 = .ok (.getfield 90, 3) := by decide +kernel
theorem dX3_findRings_27 : decode cX3_findRings 27 = .ok (.iload_n 1, 1) := by decide +kernel
theorem dX3_findRings_28 : decode cX3_findRings 28 = .ok (.ishr, 1) := by decide +kernel
theorem dX3_findRings_29 : decode cX3_findRings 29 = .ok (.iconst 1, 1) := by decide +kernel
theorem dX3_findRings_30 : decode cX3_findRings 30 = .ok (.iand, 1) := by decide +kernel
theorem dX3_findRings_31 : decode cX3_findRings 31 = .ok (.ifCond .ne 51, 3) := by decide +kernel
theorem dX3_findRings_34 : decode cX3_findRings 34 = .ok (.aload_n 0, 1) := by decide +kernel
theorem dX3_findRings_35 : decode cX3_findRings 35 = .ok (.iload_n 1, 1) := by decide +kernel
theorem dX3_findRings_36 : decode cX3_findRings 36 = .ok (.invokevirtual 93, 3) := by decide +kernel
theorem dX3_findRings_39 : decode cX3_findRings 39 = .ok (.ifCond .eq 43, 3) := by decide +kernel
theorem dX3_findRings_42 : decode cX3_findRings 42 = .ok (.aload_n 0, 1) := by decide +kernel
theorem dX3_findRings_43 : decode cX3_findRings 43 = .ok (.getfield 28, 3) := by decide +kernel
theorem dX3_findRings_46 : decode cX3_findRings 46 = .ok (.aload_n 0, 1) := by decide +kernel
theorem dX3_findRings_47 : decode cX3_findRings 47 = .ok (.getfield 87, 3) := by decide +kernel
theorem dX3_findRings_50 : decode cX3_findRings 50 = .ok (.aload_n 0, 1) := by decide +kernel
theorem dX3_findRings_51 : decode cX3_findRings 51 = .ok (.getfield 25, 3) := by decide +kernel
theorem dX3_findRings_54 : decode cX3_findRings 54 = .ok (.iload_n 1, 1) := by decide +kernel
theorem dX3_findRings_55 : decode cX3_findRings 55 = .ok (.iaload, 1) := by decide +kernel
theorem dX3_findRings_56 : decode cX3_findRings 56 = .ok (.iastore, 1) := by decide +kernel
theorem dX3_findRings_57 : decode cX3_findRings 57 = .ok (.aload_n 0, 1) := by decide +kernel
theorem dX3_findRings_58 : decode cX3_findRings 58 = .ok (.dup, 1) := by decide +kernel
theorem dX3_findRings_59 : decode cX3_findRings 59 = .ok (.getfield 90, 3) := by decide +kernel
theorem dX3_findRings_62 : decode cX3_findRings 62 = .ok (.aload_n 0, 1) := by decide +kernel
theorem dX3_findRings_63 : decode cX3_findRings 63 = .ok (.getfield 25, 3) := by decide +kernel
theorem dX3_findRings_66 : decode cX3_findRings 66 = .ok (.iload_n 1, 1) := by decide +kernel
theorem dX3_findRings_67 : decode cX3_findRings 67 = .ok (.iaload, 1) := by decide +kernel
theorem dX3_findRings_68 : decode cX3_findRings 68 = .ok (.ior, 1) := by decide +kernel
theorem dX3_findRings_69 : decode cX3_findRings 69 = .ok (.putfield 90, 3) := by decide +kernel
theorem dX3_findRings_72 : decode cX3_findRings 72 = .ok (.aload_n 0, 1) := by decide +kernel
theorem dX3_findRings_73 : decode cX3_findRings 73 = .ok (.dup, 1) := by decide +kernel
theorem dX3_findRings_74 : decode cX3_findRings 74 = .ok (.getfield 87, 3) := by decide +kernel
theorem dX3_findRings_77 : decode cX3_findRings 77 = .ok (.iconst 1, 1) := by decide +kernel
theorem dX3_findRings_78 : decode cX3_findRings 78 = .ok (.iadd, 1) := by decide +kernel
theorem dX3_findRings_79 : decode cX3_findRings 79 = .ok (.putfield 87, 3) := by decide +kernel
theorem dX3_findRings_82 : decode cX3_findRings 82 = .ok (.iinc 1 1, 3) := by decide +kernel
theorem dX3_findRings_85 : decode cX3_findRings 85 = .ok (.goto (-73), 3) := by decide +kernel
theorem dX3_findRings_88 : decode cX3_findRings 88 = .ok (.return_, 1) := by decide +kernel
theorem dX3_ranked_0 : decode cX3_ranked 0 = .ok (.iconst 0, 1) := by decide +kernel
theorem dX3_ranked_1 : decode cX3_ranked 1 = .ok (.istore_n 2, 1) := by decide +kernel
theorem dX3_ranked_2 : decode cX3_ranked 2 = .ok (.iload_n 2, 1) := by decide +kernel
theorem dX3_ranked_3 : decode cX3_ranked 3 = .ok (.aload_n 0, 1) := by decide +kernel
theorem dX3_ranked_4 : decode cX3_ranked 4 = .ok (.getfield 31, 3) := by decide +kernel
theorem dX3_ranked_7 : decode cX3_ranked 7 = .ok (.getfield 63, 3) := by decide +kernel
theorem dX3_ranked_10 : decode cX3_ranked 10 = .ok (.if_icmp .ge 20, 3) := by decide +kernel
theorem dX3_ranked_13 : decode cX3_ranked 13 = .ok (.aload_n 0, 1) := by decide +kernel
theorem dX3_ranked_14 : decode cX3_ranked 14 = .ok (.iload_n 2, 1) := by decide +kernel
theorem dX3_ranked_15 : decode cX3_ranked 15 = .ok (.invokevirtual 103, 3) := by decide +kernel
theorem dX3_ranked_18 : decode cX3_ranked 18 = .ok (.iload_n 1, 1) := by decide +kernel
theorem dX3_ranked_19 : decode cX3_ranked 19 = .ok (.if_icmp .ne 5, 3) := by decide +kernel
theorem dX3_ranked_22 : decode cX3_ranked 22 = .ok (.iload_n 2, 1) := by decide +kernel
theorem dX3_ranked_23 : decode cX3_ranked 23 = .ok (.ireturn, 1) := by decide +kernel
theorem dX3_ranked_24 : decode cX3_ranked 24 = .ok (.iinc 2 1, 3) := by decide +kernel
theorem dX3_ranked_27 : decode cX3_ranked 27 = .ok (.goto (-25), 3) := by decide +kernel
theorem dX3_ranked_30 : decode cX3_ranked 30 = .ok (.iconst (-1), 1) := by decide +kernel
theorem dX3_ranked_31 : decode cX3_ranked 31 = .ok (.ireturn, 1) := by decide +kernel
theorem dX3_settle_0 : decode cX3_settle 0 = .ok (.aload_n 0, 1) := by decide +kernel
theorem dX3_settle_1 : decode cX3_settle 1 = .ok (.getfield 39, 3) := by decide +kernel
theorem dX3_settle_4 : decode cX3_settle 4 = .ok (.ifCond .eq 4, 3) := by decide +kernel
theorem dX3_settle_7 : decode cX3_settle 7 = .ok (.return_, 1) := by decide +kernel
theorem dX3_settle_8 : decode cX3_settle 8 = .ok (.aload_n 0, 1) := by decide +kernel
theorem dX3_settle_9 : decode cX3_settle 9 = .ok (.getfield 35, 3) := by decide +kernel
theorem dX3_settle_12 : decode cX3_settle 12 = .ok (.aload_n 0, 1) := by decide +kernel
theorem dX3_settle_13 : decode cX3_settle 13 = .ok (.getfield 9, 3) := by decide +kernel
theorem dX3_settle_16 : decode cX3_settle 16 = .ok (.invokevirtual 43, 3) := by decide +kernel
theorem dX3_settle_19 : decode cX3_settle 19 = .ok (.aload_n 0, 1) := by decide +kernel
theorem dX3_settle_20 : decode cX3_settle 20 = .ok (.getfield 35, 3) := by decide +kernel
theorem dX3_settle_23 : decode cX3_settle 23 = .ok (.aload_n 0, 1) := by decide +kernel
theorem dX3_settle_24 : decode cX3_settle 24 = .ok (.getfield 9, 3) := by decide +kernel
theorem dX3_settle_27 : decode cX3_settle 27 = .ok (.iconst 1, 1) := by decide +kernel
theorem dX3_settle_28 : decode cX3_settle 28 = .ok (.iconst 1, 1) := by decide +kernel
theorem dX3_settle_29 : decode cX3_settle 29 = .ok (.aload_n 0, 1) := by decide +kernel
theorem dX3_settle_30 : decode cX3_settle 30 = .ok (.getfield 18, 3) := by decide +kernel
theorem dX3_settle_33 : decode cX3_settle 33 = .ok (.invokevirtual 49, 3) := by decide +kernel
theorem dX3_settle_36 : decode cX3_settle 36 = .ok (.aload_n 0, 1) := by decide +kernel
theorem dX3_settle_37 : decode cX3_settle 37 = .ok (.getfield 35, 3) := by decide +kernel
theorem dX3_settle_40 : decode cX3_settle 40 = .ok (.aload_n 0, 1) := by decide +kernel
theorem dX3_settle_41 : decode cX3_settle 41 = .ok (.getfield 18, 3) := by decide +kernel
theorem dX3_settle_44 : decode cX3_settle 44 = .ok (.aload_n 0, 1) := by decide +kernel
theorem dX3_settle_45 : decode cX3_settle 45 = .ok (.getfield 9, 3) := by decide +kernel
theorem dX3_settle_48 : decode cX3_settle 48 = .ok (.invokevirtual 53, 3) := by decide +kernel
theorem dX3_settle_51 : decode cX3_settle 51 = .ok (.aload_n 0, 1) := by decide +kernel
theorem dX3_settle_52 : decode cX3_settle 52 = .ok (.invokevirtual 57, 3) := by decide +kernel
theorem dX3_settle_55 : decode cX3_settle 55 = .ok (.aload_n 0, 1) := by decide +kernel
theorem dX3_settle_56 : decode cX3_settle 56 = .ok (.invokevirtual 60, 3) := by decide +kernel
theorem dX3_settle_59 : decode cX3_settle 59 = .ok (.iconst 0, 1) := by decide +kernel
theorem dX3_settle_60 : decode cX3_settle 60 = .ok (.istore_n 1, 1) := by decide +kernel
theorem dX3_settle_61 : decode cX3_settle 61 = .ok (.iconst 0, 1) := by decide +kernel
theorem dX3_settle_62 : decode cX3_settle 62 = .ok (.istore_n 2, 1) := by decide +kernel
theorem dX3_settle_63 : decode cX3_settle 63 = .ok (.iload_n 2, 1) := by decide +kernel
theorem dX3_settle_64 : decode cX3_settle 64 = .ok (.aload_n 0, 1) := by decide +kernel
theorem dX3_settle_65 : decode cX3_settle 65 = .ok (.getfield 31, 3) := by decide +kernel
theorem dX3_settle_68 : decode cX3_settle 68 = .ok (.getfield 63, 3) := by decide +kernel
theorem dX3_settle_71 : decode cX3_settle 71 = .ok (.if_icmp .ge 23, 3) := by decide +kernel
theorem dX3_settle_74 : decode cX3_settle 74 = .ok (.aload_n 0, 1) := by decide +kernel
theorem dX3_settle_75 : decode cX3_settle 75 = .ok (.iload_n 2, 1) := by decide +kernel
theorem dX3_settle_76 : decode cX3_settle 76 = .ok (.invokevirtual 69, 3) := by decide +kernel
theorem dX3_settle_79 : decode cX3_settle 79 = .ok (.ifCond .ne 9, 3) := by decide +kernel
theorem dX3_settle_82 : decode cX3_settle 82 = .ok (.iload_n 1, 1) := by decide +kernel
theorem dX3_settle_83 : decode cX3_settle 83 = .ok (.iconst 1, 1) := by decide +kernel
theorem dX3_settle_84 : decode cX3_settle 84 = .ok (.iload_n 2, 1) := by decide +kernel
theorem dX3_settle_85 : decode cX3_settle 85 = .ok (.ishl, 1) := by decide +kernel
theorem dX3_settle_86 : decode cX3_settle 86 = .ok (.ior, 1) := by decide +kernel
theorem dX3_settle_87 : decode cX3_settle 87 = .ok (.istore_n 1, 1) := by decide +kernel
theorem dX3_settle_88 : decode cX3_settle 88 = .ok (.iinc 2 1, 3) := by decide +kernel
theorem dX3_settle_91 : decode cX3_settle 91 = .ok (.goto (-28), 3) := by decide +kernel
theorem dX3_settle_94 : decode cX3_settle 94 = .ok (.aload_n 0, 1) := by decide +kernel
theorem dX3_settle_95 : decode cX3_settle 95 = .ok (.getfield 35, 3) := by decide +kernel
theorem dX3_settle_98 : decode cX3_settle 98 = .ok (.getfield 73, 3) := by decide +kernel
theorem dX3_settle_101 : decode cX3_settle 101 = .ok (.aload_n 0, 1) := by decide +kernel
theorem dX3_settle_102 : decode cX3_settle 102 = .ok (.getfield 9, 3) := by decide +kernel
theorem dX3_settle_105 : decode cX3_settle 105 = .ok (.iload_n 1, 1) := by decide +kernel
theorem dX3_settle_106 : decode cX3_settle 106 = .ok (.aload_n 0, 1) := by decide +kernel
theorem dX3_settle_107 : decode cX3_settle 107 = .ok (.getfield 22, 3) := by decide +kernel
theorem dX3_settle_110 : decode cX3_settle 110 = .ok (.invokevirtual 77, 3) := by decide +kernel
theorem dX3_settle_113 : decode cX3_settle 113 = .ok (.aload_n 0, 1) := by decide +kernel
theorem dX3_settle_114 : decode cX3_settle 114 = .ok (.iconst 1, 1) := by decide +kernel
theorem dX3_settle_115 : decode cX3_settle 115 = .ok (.putfield 39, 3) := by decide +kernel
theorem dX3_settle_118 : decode cX3_settle 118 = .ok (.return_, 1) := by decide +kernel
theorem dX3_walk_0 : decode cX3_walk 0 = .ok (.iload_n 1, 1) := by decide +kernel
theorem dX3_walk_1 : decode cX3_walk 1 = .ok (.istore 4, 2) := by decide +kernel
theorem dX3_walk_3 : decode cX3_walk 3 = .ok (.iload_n 2, 1) := by decide +kernel
theorem dX3_walk_4 : decode cX3_walk 4 = .ok (.istore 5, 2) := by decide +kernel
theorem dX3_walk_6 : decode cX3_walk 6 = .ok (.iconst 0, 1) := by decide +kernel
theorem dX3_walk_7 : decode cX3_walk 7 = .ok (.istore 6, 2) := by decide +kernel
theorem dX3_walk_9 : decode cX3_walk 9 = .ok (.iload 6, 2) := by decide +kernel
theorem dX3_walk_11 : decode cX3_walk 11 = .ok (.iload_n 3, 1) := by decide +kernel
theorem dX3_walk_12 : decode cX3_walk 12 = .ok (.if_icmp .ge 82, 3) := by decide +kernel
theorem dX3_walk_15 : decode cX3_walk 15 = .ok (.aload_n 0, 1) := by decide +kernel
theorem dX3_walk_16 : decode cX3_walk 16 = .ok (.getfield 31, 3) := by decide +kernel
theorem dX3_walk_19 : decode cX3_walk 19 = .ok (.getfield 96, 3) := by decide +kernel
theorem dX3_walk_22 : decode cX3_walk 22 = .ok (.iload 4, 2) := by decide +kernel
theorem dX3_walk_24 : decode cX3_walk 24 = .ok (.iaload, 1) := by decide +kernel
theorem dX3_walk_25 : decode cX3_walk 25 = .ok (.ifCond .eq 69, 3) := by decide +kernel
theorem dX3_walk_28 : decode cX3_walk 28 = .ok (.aload_n 0, 1) := by decide +kernel
theorem dX3_walk_29 : decode cX3_walk 29 = .ok (.getfield 9, 3) := by decide +kernel
theorem dX3_walk_32 : decode cX3_walk 32 = .ok (.iload 4, 2) := by decide +kernel
theorem dX3_walk_34 : decode cX3_walk 34 = .ok (.iaload, 1) := by decide +kernel
theorem dX3_walk_35 : decode cX3_walk 35 = .ok (.istore 7, 2) := by decide +kernel
theorem dX3_walk_37 : decode cX3_walk 37 = .ok (.aload_n 0, 1) := by decide +kernel
theorem dX3_walk_38 : decode cX3_walk 38 = .ok (.getfield 31, 3) := by decide +kernel
theorem dX3_walk_41 : decode cX3_walk 41 = .ok (.getfield 96, 3) := by decide +kernel
theorem dX3_walk_44 : decode cX3_walk 44 = .ok (.iload 4, 2) := by decide +kernel
theorem dX3_walk_46 : decode cX3_walk 46 = .ok (.iaload, 1) := by decide +kernel
theorem dX3_walk_47 : decode cX3_walk 47 = .ok (.iconst 3, 1) := by decide +kernel
theorem dX3_walk_48 : decode cX3_walk 48 = .ok (.if_icmp .ne 27, 3) := by decide +kernel
theorem dX3_walk_51 : decode cX3_walk 51 = .ok (.iload 5, 2) := by decide +kernel
theorem dX3_walk_53 : decode cX3_walk 53 = .ok (.ldc 107, 2) := by decide +kernel
theorem dX3_walk_55 : decode cX3_walk 55 = .ok (.imul, 1) := by decide +kernel
theorem dX3_walk_56 : decode cX3_walk 56 = .ok (.sipush 12345, 3) := by decide +kernel
theorem dX3_walk_59 : decode cX3_walk 59 = .ok (.iadd, 1) := by decide +kernel
theorem dX3_walk_60 : decode cX3_walk 60 = .ok (.istore 5, 2) := by decide +kernel
theorem dX3_walk_62 : decode cX3_walk 62 = .ok (.aload_n 0, 1) := by decide +kernel
theorem dX3_walk_63 : decode cX3_walk 63 = .ok (.iload 4, 2) := by decide +kernel
theorem dX3_walk_65 : decode cX3_walk 65 = .ok (.iload 5, 2) := by decide +kernel
theorem dX3_walk_67 : decode cX3_walk 67 = .ok (.bipush 8, 2) := by decide +kernel
theorem dX3_walk_69 : decode cX3_walk 69 = .ok (.iushr, 1) := by decide +kernel
theorem dX3_walk_70 : decode cX3_walk 70 = .ok (.invokevirtual 108, 3) := by decide +kernel
theorem dX3_walk_73 : decode cX3_walk 73 = .ok (.istore 7, 2) := by decide +kernel
theorem dX3_walk_75 : decode cX3_walk 75 = .ok (.aload_n 0, 1) := by decide +kernel
theorem dX3_walk_76 : decode cX3_walk 76 = .ok (.getfield 31, 3) := by decide +kernel
theorem dX3_walk_79 : decode cX3_walk 79 = .ok (.iload 4, 2) := by decide +kernel
theorem dX3_walk_81 : decode cX3_walk 81 = .ok (.iload 7, 2) := by decide +kernel
theorem dX3_walk_83 : decode cX3_walk 83 = .ok (.invokevirtual 112, 3) := by decide +kernel
theorem dX3_walk_86 : decode cX3_walk 86 = .ok (.istore 4, 2) := by decide +kernel
theorem dX3_walk_88 : decode cX3_walk 88 = .ok (.iinc 6 1, 3) := by decide +kernel
theorem dX3_walk_91 : decode cX3_walk 91 = .ok (.goto (-82), 3) := by decide +kernel
theorem dX3_walk_94 : decode cX3_walk 94 = .ok (.iload 4, 2) := by decide +kernel
theorem dX3_walk_96 : decode cX3_walk 96 = .ok (.ireturn, 1) := by decide +kernel
theorem dX3_worthless_0 : decode cX3_worthless 0 = .ok (.iconst 0, 1) := by decide +kernel
theorem dX3_worthless_1 : decode cX3_worthless 1 = .ok (.istore_n 1, 1) := by decide +kernel
theorem dX3_worthless_2 : decode cX3_worthless 2 = .ok (.iconst 0, 1) := by decide +kernel
theorem dX3_worthless_3 : decode cX3_worthless 3 = .ok (.istore_n 2, 1) := by decide +kernel
theorem dX3_worthless_4 : decode cX3_worthless 4 = .ok (.iload_n 2, 1) := by decide +kernel
theorem dX3_worthless_5 : decode cX3_worthless 5 = .ok (.aload_n 0, 1) := by decide +kernel
theorem dX3_worthless_6 : decode cX3_worthless 6 = .ok (.getfield 31, 3) := by decide +kernel
theorem dX3_worthless_9 : decode cX3_worthless 9 = .ok (.getfield 63, 3) := by decide +kernel
theorem dX3_worthless_12 : decode cX3_worthless 12 = .ok (.if_icmp .ge 29, 3) := by decide +kernel
theorem dX3_worthless_15 : decode cX3_worthless 15 = .ok (.aload_n 0, 1) := by decide +kernel
theorem dX3_worthless_16 : decode cX3_worthless 16 = .ok (.getfield 18, 3) := by decide +kernel
theorem dX3_worthless_19 : decode cX3_worthless 19 = .ok (.getfield 99, 3) := by decide +kernel
theorem dX3_worthless_22 : decode cX3_worthless 22 = .ok (.iload_n 2, 1) := by decide +kernel
theorem dX3_worthless_23 : decode cX3_worthless 23 = .ok (.laload, 1) := by decide +kernel
theorem dX3_worthless_24 : decode cX3_worthless 24 = .ok (.lconst 0, 1) := by decide +kernel
theorem dX3_worthless_25 : decode cX3_worthless 25 = .ok (.lcmp, 1) := by decide +kernel
theorem dX3_worthless_26 : decode cX3_worthless 26 = .ok (.ifCond .ne 9, 3) := by decide +kernel
theorem dX3_worthless_29 : decode cX3_worthless 29 = .ok (.iload_n 1, 1) := by decide +kernel
theorem dX3_worthless_30 : decode cX3_worthless 30 = .ok (.iconst 1, 1) := by decide +kernel
theorem dX3_worthless_31 : decode cX3_worthless 31 = .ok (.iload_n 2, 1) := by decide +kernel
theorem dX3_worthless_32 : decode cX3_worthless 32 = .ok (.ishl, 1) := by decide +kernel
theorem dX3_worthless_33 : decode cX3_worthless 33 = .ok (.ior, 1) := by decide +kernel
theorem dX3_worthless_34 : decode cX3_worthless 34 = .ok (.istore_n 1, 1) := by decide +kernel
theorem dX3_worthless_35 : decode cX3_worthless 35 = .ok (.iinc 2 1, 3) := by decide +kernel
theorem dX3_worthless_38 : decode cX3_worthless 38 = .ok (.goto (-34), 3) := by decide +kernel
theorem dX3_worthless_41 : decode cX3_worthless 41 = .ok (.iload_n 1, 1) := by decide +kernel
theorem dX3_worthless_42 : decode cX3_worthless 42 = .ok (.ireturn, 1) := by decide +kernel
set_option maxHeartbeats 4000000 in
set_option maxRecDepth 100000 in
theorem c_X3_findReach (l : Launch) (D : va_G) (g : Nat → ClassId) (sz : Nat) (oc : Nat) (n : Nat) (sv : Nat) (oc_plan : Nat) (ow : Nat) (ol : Nat) (oc_reach : Nat) (oc_ringBits : Nat) (orc : Int32) (orn : Int32) (ose : Int32) (co : Nat) (sv_keep : Nat) (sv_scaled : Nat) (eq : Nat) (co_place : Nat) (n_nodes : Int32) (n_kind : Nat) (n_pay : Nat) (n_name : Nat) (n_ways : Nat) (n_held : Nat) (n_targets : Nat) (n_weights : Nat) (n_fkind : Nat → Int32) (n_fways : Nat → Int32) (n_ftargets : Nat → Int32) (n_fweights : Nat → Int32) (opf : Nat → Int32) (orf : Nat → Int32) (h_orc : 0 ≤ (orc : Int32).toInt ∧ (orc : Int32).toInt ≤ 12) (h_ose : 0 ≤ (ose : Int32).toInt ∧ (ose : Int32).toInt ≤ 1) (h_n_nodes : 0 ≤ (n_nodes : Int32).toInt ∧ (n_nodes : Int32).toInt ≤ 12) (h_n_fkind : ∀ j : Nat, 0 ≤ (n_fkind j).toInt ∧ (n_fkind j).toInt ≤ 3) (h_n_fways : ∀ j : Nat, 0 ≤ (n_fways j).toInt ∧ (n_fways j).toInt ≤ 3) (h_n_ftargets : ∀ j : Nat, 0 ≤ (n_ftargets j).toInt ∧ (n_ftargets j).toInt ≤ 11) (h_opf : ∀ j : Nat, 0 ≤ (opf j).toInt ∧ (opf j).toInt ≤ 2) : Met l yX3_findReach (.code yX3_findReach cX3_findReach 3 none :: wsL_law) ({ frames := 2, cells := 0, slots := 0, locals := 47 }) (va_Pc [.ref oc] (fun U => U.heap.size = sz ∧ va_P D vwCl [(wO3 oc n sv oc_plan ow ol oc_reach oc_ringBits orc orn ose), (wO6 sv n co sv_keep sv_scaled), (wO0 co n eq co_place), (wO2 n n_nodes n_kind n_pay n_name n_ways n_held n_targets n_weights), (wI g n_kind 0 12 n_fkind), (wI g n_ways 0 12 n_fways), (wI g n_targets 0 36 n_ftargets), (wI g n_weights 0 36 n_fweights), (wI g oc_plan 0 12 opf), (wI g oc_reach 0 12 orf)] U.heap ∧ va_K D vwCl (TY g) U ∧ va_D (fun _ => True) [(wO3 oc n sv oc_plan ow ol oc_reach oc_ringBits orc orn ose), (wO6 sv n co sv_keep sv_scaled), (wO0 co n eq co_place), (wO2 n n_nodes n_kind n_pay n_name n_ways n_held n_targets n_weights), (wI g n_kind 0 12 n_fkind), (wI g n_ways 0 12 n_fways), (wI g n_targets 0 36 n_ftargets), (wI g n_weights 0 36 n_fweights), (wI g oc_plan 0 12 opf), (wI g oc_reach 0 12 orf)])) (va_Qv (fun (_ : Unit) => True) (fun _ t => ∃ xrf : Nat → Int32, va_P D vwCl [(wO3 oc n sv oc_plan ow ol oc_reach oc_ringBits orc orn ose), (wO6 sv n co sv_keep sv_scaled), (wO0 co n eq co_place), (wO2 n n_nodes n_kind n_pay n_name n_ways n_held n_targets n_weights), (wI g n_kind 0 12 n_fkind), (wI g n_ways 0 12 n_fways), (wI g n_targets 0 36 n_ftargets), (wI g n_weights 0 36 n_fweights), (wI g oc_plan 0 12 opf), (wI g oc_reach 0 12 xrf)] t.heap ∧ va_D (va_A [(wO3 oc n sv oc_plan ow ol oc_reach oc_ringBits orc orn ose), (wO6 sv n co sv_keep sv_scaled), (wO0 co n eq co_place), (wO2 n n_nodes n_kind n_pay n_name n_ways n_held n_targets n_weights), (wI g n_kind 0 12 n_fkind), (wI g n_ways 0 12 n_fways), (wI g n_targets 0 36 n_ftargets), (wI g n_weights 0 36 n_fweights), (wI g oc_plan 0 12 opf), (wI g oc_reach 0 12 orf)] sz) [(wO3 oc n sv oc_plan ow ol oc_reach oc_ringBits orc orn ose), (wO6 sv n co sv_keep sv_scaled), (wO0 co n eq co_place), (wO2 n n_nodes n_kind n_pay n_name n_ways n_held n_targets n_weights), (wI g n_kind 0 12 n_fkind), (wI g n_ways 0 12 n_fways), (wI g n_targets 0 36 n_ftargets), (wI g n_weights 0 36 n_fweights), (wI g oc_plan 0 12 opf), (wI g oc_reach 0 12 xrf)]) (va_A [(wO3 oc n sv oc_plan ow ol oc_reach oc_ringBits orc orn ose), (wO6 sv n co sv_keep sv_scaled), (wO0 co n eq co_place), (wO2 n n_nodes n_kind n_pay n_name n_ways n_held n_targets n_weights), (wI g n_kind 0 12 n_fkind), (wI g n_ways 0 12 n_fways), (wI g n_targets 0 36 n_ftargets), (wI g n_weights 0 36 n_fweights), (wI g oc_plan 0 12 opf), (wI g oc_reach 0 12 orf)] sz)) 0 0 (va_A [(wO3 oc n sv oc_plan ow ol oc_reach oc_ringBits orc orn ose), (wO6 sv n co sv_keep sv_scaled), (wO0 co n eq co_place), (wO2 n n_nodes n_kind n_pay n_name n_ways n_held n_targets n_weights), (wI g n_kind 0 12 n_fkind), (wI g n_ways 0 12 n_fways), (wI g n_targets 0 36 n_ftargets), (wI g n_weights 0 36 n_fweights), (wI g oc_plan 0 12 opf), (wI g oc_reach 0 12 orf)] sz) := by
  refine Met.ofW (cc := cX3_findReach) (maxL := 3) (ret := none) (by decide) rfl ?_
  intro p e s m args below meth c s₁ B hml hv
  obtain ⟨ha, hsz, hP, hK, hD0⟩ := hv
  have hx := B.exec
  have hb := B.bytes
  have hr := B.returns
  have hts0 := atoms_spec (ws := (.code yX3_findReach cX3_findReach 3 none :: wsL_law)) B.pre
  have hts : ∀ w ∈ wsL_law, w.before args s = true := fun w h => hts0 w (List.mem_cons_of_mem _ h)
  have hown : s.vm.findClass RX3 = some m.cls := findClass_of_methodNamed B.named
  have hlocks := B.notSynchronized
  subst hsz
  have hD := hD0.self (sz := s.heap.size)
  generalize hAe : va_A [(wO3 oc n sv oc_plan ow ol oc_reach oc_ringBits orc orn ose), (wO6 sv n co sv_keep sv_scaled), (wO0 co n eq co_place), (wO2 n n_nodes n_kind n_pay n_name n_ways n_held n_targets n_weights), (wI g n_kind 0 12 n_fkind), (wI g n_ways 0 12 n_fways), (wI g n_targets 0 36 n_ftargets), (wI g n_weights 0 36 n_fweights), (wI g oc_plan 0 12 opf), (wI g oc_reach 0 12 orf)] s.heap.size = A at hD ⊢
  have hA : ∀ q : Nat, s.heap.size ≤ q → A q := fun q h => by rw [← hAe]; exact Or.inr h
  have hS : va_S A s.heap s.heap [] := va_S.rf
  have hP : va_P D vwCl [(wO3 oc n sv oc_plan ow ol oc_reach oc_ringBits orc orn ose), (wO6 sv n co sv_keep sv_scaled), (wO0 co n eq co_place), (wO2 n n_nodes n_kind n_pay n_name n_ways n_held n_targets n_weights), (wI g n_kind 0 12 n_fkind), (wI g n_ways 0 12 n_fways), (wI g n_targets 0 36 n_ftargets), (wI g n_weights 0 36 n_fweights), (wI g oc_plan 0 12 opf), (wI g oc_reach 0 12 orf)] s.heap := hP
  refine W.eq (g2 := entryFrame m ([.ref oc] : List Value).toArray 3) (by rw [ha]) ?_
  have hl := lv_entry ([.ref oc]) (n := 3) (Nat.le_of_ble_eq_true rfl)
  rw [lg_entry_eq]
  generalize (lg_sl ([.ref oc]) ++ List.replicate (3 - (lg_sl ([.ref oc])).length) Slot.unset).toArray = ls at hl ⊢
  have hl : lv_has ls 3 [(0, .ref oc)] := hl
  refine lv_iconst (v := 0) hx hb dX3_findReach_0 (by decide) ?_
  refine lv_istore_n (lv' := [(1, .int 0), (0, .ref oc)]) hx hb dX3_findReach_1 rfl hl (by decide) rfl (fun ls hl => ?_)
  have lp_88358 : ∀ (n_88358 : Nat) (x_88356 : Int32) (f_88357 : Nat → Int32) (H : Heap) (locs : List Loc) (ls : Array Slot), (0 ≤ (x_88356 : Int32).toInt ∧ (x_88356 : Int32).toInt ≤ 12) → (12 - x_88356.toInt < (n_88358 : Int)) → va_P D vwCl [(wO3 oc n sv oc_plan ow ol oc_reach oc_ringBits orc orn ose), (wO6 sv n co sv_keep sv_scaled), (wO0 co n eq co_place), (wO2 n n_nodes n_kind n_pay n_name n_ways n_held n_targets n_weights), (wI g n_kind 0 12 n_fkind), (wI g n_ways 0 12 n_fways), (wI g n_targets 0 36 n_ftargets), (wI g n_weights 0 36 n_fweights), (wI g oc_plan 0 12 opf), (wI g oc_reach 0 12 f_88357)] H → va_D A [(wO3 oc n sv oc_plan ow ol oc_reach oc_ringBits orc orn ose), (wO6 sv n co sv_keep sv_scaled), (wO0 co n eq co_place), (wO2 n n_nodes n_kind n_pay n_name n_ways n_held n_targets n_weights), (wI g n_kind 0 12 n_fkind), (wI g n_ways 0 12 n_fways), (wI g n_targets 0 36 n_ftargets), (wI g n_weights 0 36 n_fweights), (wI g oc_plan 0 12 opf), (wI g oc_reach 0 12 f_88357)] → va_S A s.heap H locs → lv_has ls 3 [(1, .int x_88356), (0, .ref oc)] → W p l e (headSpec (.code yX3_findReach cX3_findReach 3 none :: wsL_law) ({ frames := 2, cells := 0, slots := 0, locals := 47 })).room s m args below meth c H locs 0 0 (MQ below (va_Qv (fun (_ : Unit) => True) (fun _ t => ∃ xrf : Nat → Int32, va_P D vwCl [(wO3 oc n sv oc_plan ow ol oc_reach oc_ringBits orc orn ose), (wO6 sv n co sv_keep sv_scaled), (wO0 co n eq co_place), (wO2 n n_nodes n_kind n_pay n_name n_ways n_held n_targets n_weights), (wI g n_kind 0 12 n_fkind), (wI g n_ways 0 12 n_fways), (wI g n_targets 0 36 n_ftargets), (wI g n_weights 0 36 n_fweights), (wI g oc_plan 0 12 opf), (wI g oc_reach 0 12 xrf)] t.heap ∧ va_D A [(wO3 oc n sv oc_plan ow ol oc_reach oc_ringBits orc orn ose), (wO6 sv n co sv_keep sv_scaled), (wO0 co n eq co_place), (wO2 n n_nodes n_kind n_pay n_name n_ways n_held n_targets n_weights), (wI g n_kind 0 12 n_fkind), (wI g n_ways 0 12 n_fways), (wI g n_targets 0 36 n_ftargets), (wI g n_weights 0 36 n_fweights), (wI g oc_plan 0 12 opf), (wI g oc_reach 0 12 xrf)]) A) args s 0 0 A) (F0 m 2 ls []) := by
    intro n_88358
    induction n_88358 with
    | zero =>
      intro x_88356 f_88357 H locs ls h_x_88356 hm_88358 hP hD hS hl
      exfalso; omega
    | succ n_88358 ih_88358 =>
      intro x_88356 f_88357 H locs ls h_x_88356 hm_88358 hP hD hS hl
      refine lv_iload_n hx hb dX3_findReach_2 rfl (lv_at hl 0 rfl) ?_
      refine lv_aload_n hx hb dX3_findReach_3 rfl (lv_at hl 1 rfl) ?_
      refine va_get (D := D) (ci := 3) (v := .ref n) (C := RX3) (T := TX3) (N := 10) hx hb hts inlX3 hown hK hP 0 rfl rfl 0 (by decide) (hts (Cond.fieldLink RX3 31 "ChanceRings$Outcome" "net" "LChanceRings$Net;") qw_619) (fun _ h9 => h9) rfl dX3_findReach_4 ?_
      refine va_get (D := D) (ci := 2) (v := .int n_nodes) (C := RX2) (T := TX2) (N := 8) hx hb hts inlX2 hown hK hP 3 rfl rfl 0 (by decide) (hts (Cond.fieldLink RX3 63 "ChanceRings$Net" "nodes" "I") qw_620) (fun _ h9 => h9) rfl dX3_findReach_7 ?_
      refine lv_icmp_ge (tgt := 44) hx hb dX3_findReach_10 (by decide) (fun c_88359 => ?_) (fun c_88359 => ?_)
      · skip
        refine lv_iconst (v := 0) hx hb dX3_findReach_44 (by decide) ?_
        refine lv_istore_n (lv' := [(1, .int 0), (0, .ref oc)]) hx hb dX3_findReach_45 rfl hl (by decide) rfl (fun ls hl => ?_)
        have lp_89489 : ∀ (n_89489 : Nat) (x_89487 : Int32) (f_89488 : Nat → Int32) (H : Heap) (locs : List Loc) (ls : Array Slot), (0 ≤ (x_89487 : Int32).toInt ∧ (x_89487 : Int32).toInt ≤ 12) → (12 - x_89487.toInt < (n_89489 : Int)) → va_P D vwCl [(wO3 oc n sv oc_plan ow ol oc_reach oc_ringBits orc orn ose), (wO6 sv n co sv_keep sv_scaled), (wO0 co n eq co_place), (wO2 n n_nodes n_kind n_pay n_name n_ways n_held n_targets n_weights), (wI g n_kind 0 12 n_fkind), (wI g n_ways 0 12 n_fways), (wI g n_targets 0 36 n_ftargets), (wI g n_weights 0 36 n_fweights), (wI g oc_plan 0 12 opf), (wI g oc_reach 0 12 f_89488)] H → va_D A [(wO3 oc n sv oc_plan ow ol oc_reach oc_ringBits orc orn ose), (wO6 sv n co sv_keep sv_scaled), (wO0 co n eq co_place), (wO2 n n_nodes n_kind n_pay n_name n_ways n_held n_targets n_weights), (wI g n_kind 0 12 n_fkind), (wI g n_ways 0 12 n_fways), (wI g n_targets 0 36 n_ftargets), (wI g n_weights 0 36 n_fweights), (wI g oc_plan 0 12 opf), (wI g oc_reach 0 12 f_89488)] → va_S A s.heap H locs → lv_has ls 3 [(1, .int x_89487), (0, .ref oc)] → W p l e (headSpec (.code yX3_findReach cX3_findReach 3 none :: wsL_law) ({ frames := 2, cells := 0, slots := 0, locals := 47 })).room s m args below meth c H locs 0 0 (MQ below (va_Qv (fun (_ : Unit) => True) (fun _ t => ∃ xrf : Nat → Int32, va_P D vwCl [(wO3 oc n sv oc_plan ow ol oc_reach oc_ringBits orc orn ose), (wO6 sv n co sv_keep sv_scaled), (wO0 co n eq co_place), (wO2 n n_nodes n_kind n_pay n_name n_ways n_held n_targets n_weights), (wI g n_kind 0 12 n_fkind), (wI g n_ways 0 12 n_fways), (wI g n_targets 0 36 n_ftargets), (wI g n_weights 0 36 n_fweights), (wI g oc_plan 0 12 opf), (wI g oc_reach 0 12 xrf)] t.heap ∧ va_D A [(wO3 oc n sv oc_plan ow ol oc_reach oc_ringBits orc orn ose), (wO6 sv n co sv_keep sv_scaled), (wO0 co n eq co_place), (wO2 n n_nodes n_kind n_pay n_name n_ways n_held n_targets n_weights), (wI g n_kind 0 12 n_fkind), (wI g n_ways 0 12 n_fways), (wI g n_targets 0 36 n_ftargets), (wI g n_weights 0 36 n_fweights), (wI g oc_plan 0 12 opf), (wI g oc_reach 0 12 xrf)]) A) args s 0 0 A) (F0 m 46 ls []) := by
          intro n_89489
          induction n_89489 with
          | zero =>
            intro x_89487 f_89488 H locs ls h_x_89487 hm_89489 hP hD hS hl
            exfalso; omega
          | succ n_89489 ih_89489 =>
            intro x_89487 f_89488 H locs ls h_x_89487 hm_89489 hP hD hS hl
            refine lv_iload_n hx hb dX3_findReach_46 rfl (lv_at hl 0 rfl) ?_
            refine lv_aload_n hx hb dX3_findReach_47 rfl (lv_at hl 1 rfl) ?_
            refine va_get (D := D) (ci := 3) (v := .ref n) (C := RX3) (T := TX3) (N := 10) hx hb hts inlX3 hown hK hP 0 rfl rfl 0 (by decide) (hts (Cond.fieldLink RX3 31 "ChanceRings$Outcome" "net" "LChanceRings$Net;") qw_619) (fun _ h9 => h9) rfl dX3_findReach_48 ?_
            refine va_get (D := D) (ci := 2) (v := .int n_nodes) (C := RX2) (T := TX2) (N := 8) hx hb hts inlX2 hown hK hP 3 rfl rfl 0 (by decide) (hts (Cond.fieldLink RX3 63 "ChanceRings$Net" "nodes" "I") qw_620) (fun _ h9 => h9) rfl dX3_findReach_51 ?_
            refine lv_icmp_ge (tgt := 110) hx hb dX3_findReach_54 (by decide) (fun c_89490 => ?_) (fun c_89490 => ?_)
            · skip
              have hP9 := hP.sub (ws' := [(wO3 oc n sv oc_plan ow ol oc_reach oc_ringBits orc orn ose), (wO6 sv n co sv_keep sv_scaled), (wO0 co n eq co_place), (wO2 n n_nodes n_kind n_pay n_name n_ways n_held n_targets n_weights), (wI g n_kind 0 12 n_fkind), (wI g n_ways 0 12 n_fways), (wI g n_targets 0 36 n_ftargets), (wI g n_weights 0 36 n_fweights), (wI g oc_plan 0 12 opf), (wI g oc_reach 0 12 f_89488)]) [0, 1, 2, 3, 4, 5, 6, 7, 8, 9] rfl
              have hD9 := hD.sub (ws' := [(wO3 oc n sv oc_plan ow ol oc_reach oc_ringBits orc orn ose), (wO6 sv n co sv_keep sv_scaled), (wO0 co n eq co_place), (wO2 n n_nodes n_kind n_pay n_name n_ways n_held n_targets n_weights), (wI g n_kind 0 12 n_fkind), (wI g n_ways 0 12 n_fways), (wI g n_targets 0 36 n_ftargets), (wI g n_weights 0 36 n_fweights), (wI g oc_plan 0 12 opf), (wI g oc_reach 0 12 f_89488)]) [0, 1, 2, 3, 4, 5, 6, 7, 8, 9] (by decide) rfl
              exact W.vret hx hb hr (fun t ht hW => ⟨⟨(), rfl, trivial, f_89488, by rw [ht]; exact hP9, hD9⟩, hS.F ht⟩) hS.2.2 dX3_findReach_110
            · skip
              have c_89490_i := Int32.lt_iff_toInt_lt.mp (Int32.not_le.mp c_89490)
              have h_89491 : 0 ≤ (x_89487 : Int32).toInt ∧ (x_89487 : Int32).toInt ≤ 11 := nr_lt_l h_x_89487 h_n_nodes c_89490_i (by decide) (by decide)
              have h_89492 : 1 ≤ (n_nodes : Int32).toInt ∧ (n_nodes : Int32).toInt ≤ 12 := nr_lt_r h_x_89487 h_n_nodes c_89490_i (by decide) (by decide)
              refine lv_iconst (v := 0) hx hb dX3_findReach_57 (by decide) ?_
              refine lv_istore_n (lv' := [(2, .int 0), (1, .int x_89487), (0, .ref oc)]) hx hb dX3_findReach_58 rfl hl (by decide) rfl (fun ls hl => ?_)
              have lp_89616 : ∀ (n_89616 : Nat) (x_89614 : Int32) (f_89615 : Nat → Int32) (H : Heap) (locs : List Loc) (ls : Array Slot), (0 ≤ (x_89614 : Int32).toInt ∧ (x_89614 : Int32).toInt ≤ 12) → (12 - x_89614.toInt < (n_89616 : Int)) → va_P D vwCl [(wO3 oc n sv oc_plan ow ol oc_reach oc_ringBits orc orn ose), (wO6 sv n co sv_keep sv_scaled), (wO0 co n eq co_place), (wO2 n n_nodes n_kind n_pay n_name n_ways n_held n_targets n_weights), (wI g n_kind 0 12 n_fkind), (wI g n_ways 0 12 n_fways), (wI g n_targets 0 36 n_ftargets), (wI g n_weights 0 36 n_fweights), (wI g oc_plan 0 12 opf), (wI g oc_reach 0 12 f_89615)] H → va_D A [(wO3 oc n sv oc_plan ow ol oc_reach oc_ringBits orc orn ose), (wO6 sv n co sv_keep sv_scaled), (wO0 co n eq co_place), (wO2 n n_nodes n_kind n_pay n_name n_ways n_held n_targets n_weights), (wI g n_kind 0 12 n_fkind), (wI g n_ways 0 12 n_fways), (wI g n_targets 0 36 n_ftargets), (wI g n_weights 0 36 n_fweights), (wI g oc_plan 0 12 opf), (wI g oc_reach 0 12 f_89615)] → va_S A s.heap H locs → lv_has ls 3 [(2, .int x_89614), (1, .int x_89487), (0, .ref oc)] → W p l e (headSpec (.code yX3_findReach cX3_findReach 3 none :: wsL_law) ({ frames := 2, cells := 0, slots := 0, locals := 47 })).room s m args below meth c H locs 0 0 (MQ below (va_Qv (fun (_ : Unit) => True) (fun _ t => ∃ xrf : Nat → Int32, va_P D vwCl [(wO3 oc n sv oc_plan ow ol oc_reach oc_ringBits orc orn ose), (wO6 sv n co sv_keep sv_scaled), (wO0 co n eq co_place), (wO2 n n_nodes n_kind n_pay n_name n_ways n_held n_targets n_weights), (wI g n_kind 0 12 n_fkind), (wI g n_ways 0 12 n_fways), (wI g n_targets 0 36 n_ftargets), (wI g n_weights 0 36 n_fweights), (wI g oc_plan 0 12 opf), (wI g oc_reach 0 12 xrf)] t.heap ∧ va_D A [(wO3 oc n sv oc_plan ow ol oc_reach oc_ringBits orc orn ose), (wO6 sv n co sv_keep sv_scaled), (wO0 co n eq co_place), (wO2 n n_nodes n_kind n_pay n_name n_ways n_held n_targets n_weights), (wI g n_kind 0 12 n_fkind), (wI g n_ways 0 12 n_fways), (wI g n_targets 0 36 n_ftargets), (wI g n_weights 0 36 n_fweights), (wI g oc_plan 0 12 opf), (wI g oc_reach 0 12 xrf)]) A) args s 0 0 A) (F0 m 59 ls []) := by
                intro n_89616
                induction n_89616 with
                | zero =>
                  intro x_89614 f_89615 H locs ls h_x_89614 hm_89616 hP hD hS hl
                  exfalso; omega
                | succ n_89616 ih_89616 =>
                  intro x_89614 f_89615 H locs ls h_x_89614 hm_89616 hP hD hS hl
                  refine lv_iload_n hx hb dX3_findReach_59 rfl (lv_at hl 0 rfl) ?_
                  refine lv_aload_n hx hb dX3_findReach_60 rfl (lv_at hl 2 rfl) ?_
                  refine va_get (D := D) (ci := 3) (v := .ref n) (C := RX3) (T := TX3) (N := 10) hx hb hts inlX3 hown hK hP 0 rfl rfl 0 (by decide) (hts (Cond.fieldLink RX3 31 "ChanceRings$Outcome" "net" "LChanceRings$Net;") qw_619) (fun _ h9 => h9) rfl dX3_findReach_61 ?_
                  refine va_get (D := D) (ci := 2) (v := .int n_nodes) (C := RX2) (T := TX2) (N := 8) hx hb hts inlX2 hown hK hP 3 rfl rfl 0 (by decide) (hts (Cond.fieldLink RX3 63 "ChanceRings$Net" "nodes" "I") qw_620) (fun _ h9 => h9) rfl dX3_findReach_64 ?_
                  refine lv_icmp_ge (tgt := 104) hx hb dX3_findReach_67 (by decide) (fun c_89617 => ?_) (fun c_89617 => ?_)
                  · skip
                    have c_89617_i := Int32.le_iff_toInt_le.mp c_89617
                    have h_89618 : 1 ≤ (x_89614 : Int32).toInt ∧ (x_89614 : Int32).toInt ≤ 12 := nr_le_r h_89492 h_x_89614 c_89617_i (by decide) (by decide)
                    obtain ⟨v_89620, v_89620_e⟩ : ∃ y : Int32, y = x_89487 + Int32.ofInt 1 := ⟨_, rfl⟩
                    have h_v_89620 : 1 ≤ (v_89620 : Int32).toInt ∧ (v_89620 : Int32).toInt ≤ 12 := by rw [v_89620_e]; exact tr_add h_89491 (⟨by decide, by decide⟩ : 1 ≤ (Int32.ofInt 1 : Int32).toInt ∧ (Int32.ofInt 1 : Int32).toInt ≤ 1) (by decide) (by decide) (by decide) (by decide)
                    have q_v_89620 : v_89620.toInt = x_89487.toInt + 1 := by rw [v_89620_e]; exact tr_addE h_89491 (⟨by decide, by decide⟩ : 1 ≤ (Int32.ofInt 1 : Int32).toInt ∧ (Int32.ofInt 1 : Int32).toInt ≤ 1) (by decide) (by decide)
                    refine lv_iinc (v := v_89620) (lv' := [(1, .int v_89620), (2, .int x_89614), (0, .ref oc)]) hx hb dX3_findReach_104 hl (k := 1) rfl v_89620_e.symm (by decide) rfl (fun ls hl => ?_)
                    refine lv_goto (tgt := 46) hx hb dX3_findReach_107 (by decide) ?_
                    exact ih_89489 v_89620 f_89615 H _ ls (tr_w h_v_89620 (by decide) (by decide)) (by omega) (hP.sub [0, 1, 2, 3, 4, 5, 6, 7, 8, 9] rfl) (hD.sub [0, 1, 2, 3, 4, 5, 6, 7, 8, 9] (by decide) rfl) hS (lv_sub hl [0, 2] rfl)
                  · skip
                    have c_89617_i := Int32.lt_iff_toInt_lt.mp (Int32.not_le.mp c_89617)
                    have h_89619 : 0 ≤ (x_89614 : Int32).toInt ∧ (x_89614 : Int32).toInt ≤ 11 := nr_lt_l h_x_89614 h_89492 c_89617_i (by decide) (by decide)
                    refine lv_aload_n hx hb dX3_findReach_70 rfl (lv_at hl 2 rfl) ?_
                    refine va_get (D := D) (ci := 3) (v := .ref oc_reach) (C := RX3) (T := TX3) (N := 10) hx hb hts inlX3 hown hK hP 0 rfl rfl 5 (by decide) (hts (Cond.fieldLink RX3 25 "ChanceRings$Outcome" "reach" "[I") qw_621) (fun _ h9 => h9) rfl dX3_findReach_71 ?_
                    refine lv_iload_n hx hb dX3_findReach_74 rfl (lv_at hl 0 rfl) ?_
                    refine va_iald hx hb hK hP 9 0 rfl rfl (tr_in h_89619 (by decide) (by decide)) dX3_findReach_75 ?_
                    refine lv_topi (fun v_89621 v_89621_e => ?_)
                    refine lv_iload_n hx hb dX3_findReach_76 rfl (lv_at hl 1 rfl) ?_
                    refine lv_ishr hx hb dX3_findReach_77 ?_
                    refine lv_topi (fun v_89622 v_89622_e => ?_)
                    refine lv_iconst (v := 1) hx hb dX3_findReach_78 (by decide) ?_
                    refine lv_iand hx hb dX3_findReach_79 ?_
                    refine lv_topi (fun v_89623 v_89623_e => ?_)
                    refine lv_if_eq (tgt := 98) hx hb dX3_findReach_80 (by decide) (fun c_89624 => ?_) (fun c_89624 => ?_)
                    · skip
                      have h_89625 : 0 ≤ (v_89623 : Int32).toInt ∧ (v_89623 : Int32).toInt ≤ 0 := by rw [c_89624]; exact ⟨by decide, by decide⟩
                      obtain ⟨v_89626, v_89626_e⟩ : ∃ y : Int32, y = x_89614 + Int32.ofInt 1 := ⟨_, rfl⟩
                      have h_v_89626 : 1 ≤ (v_89626 : Int32).toInt ∧ (v_89626 : Int32).toInt ≤ 12 := by rw [v_89626_e]; exact tr_add h_89619 (⟨by decide, by decide⟩ : 1 ≤ (Int32.ofInt 1 : Int32).toInt ∧ (Int32.ofInt 1 : Int32).toInt ≤ 1) (by decide) (by decide) (by decide) (by decide)
                      have q_v_89626 : v_89626.toInt = x_89614.toInt + 1 := by rw [v_89626_e]; exact tr_addE h_89619 (⟨by decide, by decide⟩ : 1 ≤ (Int32.ofInt 1 : Int32).toInt ∧ (Int32.ofInt 1 : Int32).toInt ≤ 1) (by decide) (by decide)
                      refine lv_iinc (v := v_89626) (lv' := [(2, .int v_89626), (1, .int x_89487), (0, .ref oc)]) hx hb dX3_findReach_98 hl (k := 0) rfl v_89626_e.symm (by decide) rfl (fun ls hl => ?_)
                      refine lv_goto (tgt := 59) hx hb dX3_findReach_101 (by decide) ?_
                      exact ih_89616 v_89626 f_89615 H _ ls (tr_w h_v_89626 (by decide) (by decide)) (by (first | (clear h_orc h_ose h_x_88356 h_x_89487 h_89491 h_89625; omega) | omega)) (hP.sub [0, 1, 2, 3, 4, 5, 6, 7, 8, 9] rfl) (hD.sub [0, 1, 2, 3, 4, 5, 6, 7, 8, 9] (by decide) rfl) hS (lv_sub hl [0, 1, 2] rfl)
                    · skip
                      refine lv_aload_n hx hb dX3_findReach_83 rfl (lv_at hl 2 rfl) ?_
                      refine va_get (D := D) (ci := 3) (v := .ref oc_reach) (C := RX3) (T := TX3) (N := 10) hx hb hts inlX3 hown hK hP 0 rfl rfl 5 (by decide) (hts (Cond.fieldLink RX3 25 "ChanceRings$Outcome" "reach" "[I") qw_621) (fun _ h9 => h9) rfl dX3_findReach_84 ?_
                      refine lv_iload_n hx hb dX3_findReach_87 rfl (lv_at hl 0 rfl) ?_
                      refine lv_dup2_11 hx hb dX3_findReach_88 rfl rfl ?_
                      refine va_iald hx hb hK hP 9 0 rfl rfl (tr_in h_89619 (by decide) (by decide)) dX3_findReach_89 ?_
                      refine tz_i (y := v_89621) v_89621_e.symm ?_
                      refine lv_aload_n hx hb dX3_findReach_90 rfl (lv_at hl 2 rfl) ?_
                      refine va_get (D := D) (ci := 3) (v := .ref oc_reach) (C := RX3) (T := TX3) (N := 10) hx hb hts inlX3 hown hK hP 0 rfl rfl 5 (by decide) (hts (Cond.fieldLink RX3 25 "ChanceRings$Outcome" "reach" "[I") qw_621) (fun _ h9 => h9) rfl dX3_findReach_91 ?_
                      refine lv_iload_n hx hb dX3_findReach_94 rfl (lv_at hl 1 rfl) ?_
                      refine va_iald hx hb hK hP 9 0 rfl rfl (tr_in h_89491 (by decide) (by decide)) dX3_findReach_95 ?_
                      refine lv_topi (fun v_89627 v_89627_e => ?_)
                      refine lv_ior hx hb dX3_findReach_96 ?_
                      refine lv_topi (fun v_89628 v_89628_e => ?_)
                      refine va_iast hx hb hK hP hD hS 9 0 rfl rfl (tr_in h_89619 (by decide) (by decide)) dX3_findReach_97 (fun H locs hP hD hS => ?_)
                      obtain ⟨f_89629, hP, hD⟩ : ∃ FX : Nat → Int32, va_P D vwCl [(wO3 oc n sv oc_plan ow ol oc_reach oc_ringBits orc orn ose), (wO6 sv n co sv_keep sv_scaled), (wO0 co n eq co_place), (wO2 n n_nodes n_kind n_pay n_name n_ways n_held n_targets n_weights), (wI g n_kind 0 12 n_fkind), (wI g n_ways 0 12 n_fways), (wI g n_targets 0 36 n_ftargets), (wI g n_weights 0 36 n_fweights), (wI g oc_plan 0 12 opf), (wI g oc_reach 0 12 FX)] H ∧ va_D A [(wO3 oc n sv oc_plan ow ol oc_reach oc_ringBits orc orn ose), (wO6 sv n co sv_keep sv_scaled), (wO0 co n eq co_place), (wO2 n n_nodes n_kind n_pay n_name n_ways n_held n_targets n_weights), (wI g n_kind 0 12 n_fkind), (wI g n_ways 0 12 n_fways), (wI g n_targets 0 36 n_ftargets), (wI g n_weights 0 36 n_fweights), (wI g oc_plan 0 12 opf), (wI g oc_reach 0 12 FX)] := ⟨_, hP, hD⟩
                      have hP : va_P D vwCl [(wO3 oc n sv oc_plan ow ol oc_reach oc_ringBits orc orn ose), (wO6 sv n co sv_keep sv_scaled), (wO0 co n eq co_place), (wO2 n n_nodes n_kind n_pay n_name n_ways n_held n_targets n_weights), (wI g n_kind 0 12 n_fkind), (wI g n_ways 0 12 n_fways), (wI g n_targets 0 36 n_ftargets), (wI g n_weights 0 36 n_fweights), (wI g oc_plan 0 12 opf), (wI g oc_reach 0 12 f_89629)] H := hP
                      have hD : va_D A [(wO3 oc n sv oc_plan ow ol oc_reach oc_ringBits orc orn ose), (wO6 sv n co sv_keep sv_scaled), (wO0 co n eq co_place), (wO2 n n_nodes n_kind n_pay n_name n_ways n_held n_targets n_weights), (wI g n_kind 0 12 n_fkind), (wI g n_ways 0 12 n_fways), (wI g n_targets 0 36 n_ftargets), (wI g n_weights 0 36 n_fweights), (wI g oc_plan 0 12 opf), (wI g oc_reach 0 12 f_89629)] := hD
                      obtain ⟨v_89630, v_89630_e⟩ : ∃ y : Int32, y = x_89614 + Int32.ofInt 1 := ⟨_, rfl⟩
                      have h_v_89630 : 1 ≤ (v_89630 : Int32).toInt ∧ (v_89630 : Int32).toInt ≤ 12 := by rw [v_89630_e]; exact tr_add h_89619 (⟨by decide, by decide⟩ : 1 ≤ (Int32.ofInt 1 : Int32).toInt ∧ (Int32.ofInt 1 : Int32).toInt ≤ 1) (by decide) (by decide) (by decide) (by decide)
                      have q_v_89630 : v_89630.toInt = x_89614.toInt + 1 := by rw [v_89630_e]; exact tr_addE h_89619 (⟨by decide, by decide⟩ : 1 ≤ (Int32.ofInt 1 : Int32).toInt ∧ (Int32.ofInt 1 : Int32).toInt ≤ 1) (by decide) (by decide)
                      refine lv_iinc (v := v_89630) (lv' := [(2, .int v_89630), (1, .int x_89487), (0, .ref oc)]) hx hb dX3_findReach_98 hl (k := 0) rfl v_89630_e.symm (by decide) rfl (fun ls hl => ?_)
                      refine lv_goto (tgt := 59) hx hb dX3_findReach_101 (by decide) ?_
                      exact ih_89616 v_89630 f_89629 H _ ls (tr_w h_v_89630 (by decide) (by decide)) (by (first | (clear h_orc h_ose h_x_88356 h_x_89487 h_89491; omega) | omega)) (hP.sub [0, 1, 2, 3, 4, 5, 6, 7, 8, 9] rfl) (hD.sub [0, 1, 2, 3, 4, 5, 6, 7, 8, 9] (by decide) rfl) hS (lv_sub hl [0, 1, 2] rfl)
              exact lp_89616 13 0 f_89488 H _ ls (⟨by decide, by decide⟩ : 0 ≤ (0 : Int32).toInt ∧ (0 : Int32).toInt ≤ 12) (by decide) (hP.sub [0, 1, 2, 3, 4, 5, 6, 7, 8, 9] rfl) (hD.sub [0, 1, 2, 3, 4, 5, 6, 7, 8, 9] (by decide) rfl) hS (lv_sub hl [0, 1, 2] rfl)
        exact lp_89489 13 0 f_88357 H _ ls (⟨by decide, by decide⟩ : 0 ≤ (0 : Int32).toInt ∧ (0 : Int32).toInt ≤ 12) (by decide) (hP.sub [0, 1, 2, 3, 4, 5, 6, 7, 8, 9] rfl) (hD.sub [0, 1, 2, 3, 4, 5, 6, 7, 8, 9] (by decide) rfl) hS (lv_sub hl [0, 1] rfl)
      · skip
        have c_88359_i := Int32.lt_iff_toInt_lt.mp (Int32.not_le.mp c_88359)
        have h_88360 : 0 ≤ (x_88356 : Int32).toInt ∧ (x_88356 : Int32).toInt ≤ 11 := nr_lt_l h_x_88356 h_n_nodes c_88359_i (by decide) (by decide)
        have h_88361 : 1 ≤ (n_nodes : Int32).toInt ∧ (n_nodes : Int32).toInt ≤ 12 := nr_lt_r h_x_88356 h_n_nodes c_88359_i (by decide) (by decide)
        refine lv_aload_n hx hb dX3_findReach_13 rfl (lv_at hl 1 rfl) ?_
        refine va_get (D := D) (ci := 3) (v := .ref oc_reach) (C := RX3) (T := TX3) (N := 10) hx hb hts inlX3 hown hK hP 0 rfl rfl 5 (by decide) (hts (Cond.fieldLink RX3 25 "ChanceRings$Outcome" "reach" "[I") qw_621) (fun _ h9 => h9) rfl dX3_findReach_14 ?_
        refine lv_iload_n hx hb dX3_findReach_17 rfl (lv_at hl 0 rfl) ?_
        refine lv_iconst (v := 1) hx hb dX3_findReach_18 (by decide) ?_
        refine lv_iload_n hx hb dX3_findReach_19 rfl (lv_at hl 0 rfl) ?_
        refine lv_ishl hx hb dX3_findReach_20 ?_
        refine lv_topi (fun v_89631 v_89631_e => ?_)
        refine lv_aload_n hx hb dX3_findReach_21 rfl (lv_at hl 1 rfl) ?_
        refine va_get (D := D) (ci := 3) (v := .ref sv) (C := RX3) (T := TX3) (N := 10) hx hb hts inlX3 hown hK hP 0 rfl rfl 1 (by decide) (hts (Cond.fieldLink RX3 35 "ChanceRings$Outcome" "solver" "LChanceRings$Solver;") qw_622) (fun _ h9 => h9) rfl dX3_findReach_22 ?_
        refine va_get (D := D) (ci := 6) (v := .ref co) (C := RX6) (T := TX6) (N := 4) hx hb hts inlX6 hown hK hP 1 rfl rfl 1 (by decide) (hts (Cond.fieldLink RX3 73 "ChanceRings$Solver" "course" "LChanceRings$Course;") qw_623) (fun _ h9 => h9) rfl dX3_findReach_25 ?_
        refine lv_aload_n hx hb dX3_findReach_28 rfl (lv_at hl 1 rfl) ?_
        refine va_get (D := D) (ci := 3) (v := .ref oc_plan) (C := RX3) (T := TX3) (N := 10) hx hb hts inlX3 hown hK hP 0 rfl rfl 2 (by decide) (hts (Cond.fieldLink RX3 9 "ChanceRings$Outcome" "plan" "[I") qw_624) (fun _ h9 => h9) rfl dX3_findReach_29 ?_
        refine lv_iload_n hx hb dX3_findReach_32 rfl (lv_at hl 0 rfl) ?_
        have hPc := hP.sub (ws' := [(wO0 co n eq co_place), (wO2 n n_nodes n_kind n_pay n_name n_ways n_held n_targets n_weights), (wI g n_kind 0 12 n_fkind), (wI g n_ways 0 12 n_fways), (wI g n_targets 0 36 n_ftargets), (wI g n_weights 0 36 n_fweights), (wI g oc_plan 0 12 opf)]) [2, 3, 4, 5, 6, 7, 8] rfl
        refine vp_callSi (va_Run.run (va_runV (As := [.ref oc_plan, .int x_88356]) (rest := [.int v_89631, .int x_88356, .ref oc_reach]) ⟨hx, hb, hml, hown, hts⟩ (c_X0_follow l D g co oc_plan x_88356 n eq co_place n_nodes n_kind n_pay n_name n_ways n_held n_targets n_weights n_fkind n_fways n_ftargets n_fweights opf (tr_w h_88360 (by decide) (by decide)) (tr_w h_88361 (by decide) (by decide)) (tr_wa h_n_fkind (by decide) (by decide)) (tr_wa h_n_fways (by decide) (by decide)) (tr_wa h_n_ftargets (by decide) (by decide)) (tr_wa h_opf (by decide) (by decide))) (cwV 2 hts (tz_gV qw_625 qw_547 qw_548 qw_470 qw_549) rfl rfl rfl (by decide +kernel) ⟨Nat.le_of_ble_eq_true rfl, Nat.le_of_ble_eq_true rfl⟩) ⟨tz_blS, va_recv hK hPc (ci := 0) (q0 := 0) rfl rfl, tz_preS hPc hK⟩ rfl rfl hl.1 rfl (lv_room (Nat.le_of_ble_eq_true rfl)) dX3_findReach_33 ⟨Nat.le_of_ble_eq_true rfl, Nat.le_of_ble_eq_true rfl⟩)) (fun r_89632 hw => ?_)
        refine lv_ior hx hb dX3_findReach_36 ?_
        refine lv_topi (fun v_89633 v_89633_e => ?_)
        refine va_iast hx hb hK hP hD hS 9 0 rfl rfl (tr_in h_88360 (by decide) (by decide)) dX3_findReach_37 (fun H locs hP hD hS => ?_)
        obtain ⟨f_89634, hP, hD⟩ : ∃ FX : Nat → Int32, va_P D vwCl [(wO3 oc n sv oc_plan ow ol oc_reach oc_ringBits orc orn ose), (wO6 sv n co sv_keep sv_scaled), (wO0 co n eq co_place), (wO2 n n_nodes n_kind n_pay n_name n_ways n_held n_targets n_weights), (wI g n_kind 0 12 n_fkind), (wI g n_ways 0 12 n_fways), (wI g n_targets 0 36 n_ftargets), (wI g n_weights 0 36 n_fweights), (wI g oc_plan 0 12 opf), (wI g oc_reach 0 12 FX)] H ∧ va_D A [(wO3 oc n sv oc_plan ow ol oc_reach oc_ringBits orc orn ose), (wO6 sv n co sv_keep sv_scaled), (wO0 co n eq co_place), (wO2 n n_nodes n_kind n_pay n_name n_ways n_held n_targets n_weights), (wI g n_kind 0 12 n_fkind), (wI g n_ways 0 12 n_fways), (wI g n_targets 0 36 n_ftargets), (wI g n_weights 0 36 n_fweights), (wI g oc_plan 0 12 opf), (wI g oc_reach 0 12 FX)] := ⟨_, hP, hD⟩
        have hP : va_P D vwCl [(wO3 oc n sv oc_plan ow ol oc_reach oc_ringBits orc orn ose), (wO6 sv n co sv_keep sv_scaled), (wO0 co n eq co_place), (wO2 n n_nodes n_kind n_pay n_name n_ways n_held n_targets n_weights), (wI g n_kind 0 12 n_fkind), (wI g n_ways 0 12 n_fways), (wI g n_targets 0 36 n_ftargets), (wI g n_weights 0 36 n_fweights), (wI g oc_plan 0 12 opf), (wI g oc_reach 0 12 f_89634)] H := hP
        have hD : va_D A [(wO3 oc n sv oc_plan ow ol oc_reach oc_ringBits orc orn ose), (wO6 sv n co sv_keep sv_scaled), (wO0 co n eq co_place), (wO2 n n_nodes n_kind n_pay n_name n_ways n_held n_targets n_weights), (wI g n_kind 0 12 n_fkind), (wI g n_ways 0 12 n_fways), (wI g n_targets 0 36 n_ftargets), (wI g n_weights 0 36 n_fweights), (wI g oc_plan 0 12 opf), (wI g oc_reach 0 12 f_89634)] := hD
        obtain ⟨v_89635, v_89635_e⟩ : ∃ y : Int32, y = x_88356 + Int32.ofInt 1 := ⟨_, rfl⟩
        have h_v_89635 : 1 ≤ (v_89635 : Int32).toInt ∧ (v_89635 : Int32).toInt ≤ 12 := by rw [v_89635_e]; exact tr_add h_88360 (⟨by decide, by decide⟩ : 1 ≤ (Int32.ofInt 1 : Int32).toInt ∧ (Int32.ofInt 1 : Int32).toInt ≤ 1) (by decide) (by decide) (by decide) (by decide)
        have q_v_89635 : v_89635.toInt = x_88356.toInt + 1 := by rw [v_89635_e]; exact tr_addE h_88360 (⟨by decide, by decide⟩ : 1 ≤ (Int32.ofInt 1 : Int32).toInt ∧ (Int32.ofInt 1 : Int32).toInt ≤ 1) (by decide) (by decide)
        refine lv_iinc (v := v_89635) (lv' := [(1, .int v_89635), (0, .ref oc)]) hx hb dX3_findReach_38 hl (k := 0) rfl v_89635_e.symm (by decide) rfl (fun ls hl => ?_)
        refine lv_goto (tgt := 2) hx hb dX3_findReach_41 (by decide) ?_
        exact ih_88358 v_89635 f_89634 H _ ls (tr_w h_v_89635 (by decide) (by decide)) (by omega) (hP.sub [0, 1, 2, 3, 4, 5, 6, 7, 8, 9] rfl) (hD.sub [0, 1, 2, 3, 4, 5, 6, 7, 8, 9] (by decide) rfl) hS (lv_sub hl [0, 1] rfl)
  exact lp_88358 13 0 orf s.heap _ ls (⟨by decide, by decide⟩ : 0 ≤ (0 : Int32).toInt ∧ (0 : Int32).toInt ≤ 12) (by decide) (hP.sub [0, 1, 2, 3, 4, 5, 6, 7, 8, 9] rfl) (hD.sub [0, 1, 2, 3, 4, 5, 6, 7, 8, 9] (by decide) rfl) hS (lv_sub hl [0, 1] rfl)
set_option maxHeartbeats 4000000 in
set_option maxRecDepth 100000 in
theorem c_X3_comesBack (l : Launch) (D : va_G) (g : Nat → ClassId) (oc : Nat) (p0 : Int32) (n : Nat) (sv : Nat) (oc_plan : Nat) (ow : Nat) (ol : Nat) (oc_reach : Nat) (oc_ringBits : Nat) (orc : Int32) (orn : Int32) (ose : Int32) (n_nodes : Int32) (n_kind : Nat) (n_pay : Nat) (n_name : Nat) (n_ways : Nat) (n_held : Nat) (n_targets : Nat) (n_weights : Nat) (n_fkind : Nat → Int32) (orf : Nat → Int32) (h_p0 : 0 ≤ (p0 : Int32).toInt ∧ (p0 : Int32).toInt ≤ 11) (h_orc : 0 ≤ (orc : Int32).toInt ∧ (orc : Int32).toInt ≤ 12) (h_ose : 0 ≤ (ose : Int32).toInt ∧ (ose : Int32).toInt ≤ 1) (h_n_nodes : 0 ≤ (n_nodes : Int32).toInt ∧ (n_nodes : Int32).toInt ≤ 12) (h_n_fkind : ∀ j : Nat, 0 ≤ (n_fkind j).toInt ∧ (n_fkind j).toInt ≤ 3) : Met l yX3_comesBack (.code yX3_comesBack cX3_comesBack 3 (some .boolean) :: wsL_law) ({ frames := 0, cells := 0, slots := 0, locals := 0 }) (va_Pc [.ref oc, .int p0] (fun U => va_P D vwCl [(wO3 oc n sv oc_plan ow ol oc_reach oc_ringBits orc orn ose), (wO2 n n_nodes n_kind n_pay n_name n_ways n_held n_targets n_weights), (wI g n_kind 0 12 n_fkind), (wI g oc_reach 0 12 orf)] U.heap ∧ va_K D vwCl (TY g) U)) (vp_Si (fun r => 0 ≤ (r : Int32).toInt ∧ (r : Int32).toInt ≤ 1)) 0 0 (fun _ => False) := by
  refine Met.ofW (cc := cX3_comesBack) (maxL := 3) (ret := (some .boolean)) (by decide) rfl ?_
  intro p e s m args below meth c s₁ B hml hv
  obtain ⟨ha, hP, hK⟩ := hv
  have hx := B.exec
  have hb := B.bytes
  have hr := B.returns
  have hts0 := atoms_spec (ws := (.code yX3_comesBack cX3_comesBack 3 (some .boolean) :: wsL_law)) B.pre
  have hts : ∀ w ∈ wsL_law, w.before args s = true := fun w h => hts0 w (List.mem_cons_of_mem _ h)
  have hown : s.vm.findClass RX3 = some m.cls := findClass_of_methodNamed B.named
  have hlocks := B.notSynchronized
  have hP : va_P D vwCl [(wO3 oc n sv oc_plan ow ol oc_reach oc_ringBits orc orn ose), (wO2 n n_nodes n_kind n_pay n_name n_ways n_held n_targets n_weights), (wI g n_kind 0 12 n_fkind), (wI g oc_reach 0 12 orf)] s.heap := hP
  refine W.eq (g2 := entryFrame m ([.ref oc, .int p0] : List Value).toArray 3) (by rw [ha]) ?_
  have hl := lv_entry ([.ref oc, .int p0]) (n := 3) (Nat.le_of_ble_eq_true rfl)
  rw [lg_entry_eq]
  generalize (lg_sl ([.ref oc, .int p0]) ++ List.replicate (3 - (lg_sl ([.ref oc, .int p0])).length) Slot.unset).toArray = ls at hl ⊢
  have hl : lv_has ls 3 [(0, .ref oc), (1, .int p0)] := hl
  refine lv_iconst (v := 0) hx hb dX3_comesBack_0 (by decide) ?_
  refine lv_istore_n (lv' := [(2, .int 0), (0, .ref oc), (1, .int p0)]) hx hb dX3_comesBack_1 rfl hl (by decide) rfl (fun ls hl => ?_)
  have lp_89794 : ∀ (n_89794 : Nat) (x_89793 : Int32) (ls : Array Slot), (0 ≤ (x_89793 : Int32).toInt ∧ (x_89793 : Int32).toInt ≤ 12) → (12 - x_89793.toInt < (n_89794 : Int)) → lv_has ls 3 [(2, .int x_89793), (0, .ref oc), (1, .int p0)] → W p l e (headSpec (.code yX3_comesBack cX3_comesBack 3 (some .boolean) :: wsL_law) ({ frames := 0, cells := 0, slots := 0, locals := 0 })).room s m args below meth c s.heap [] 0 0 (MQ below (vp_Si (fun r => 0 ≤ (r : Int32).toInt ∧ (r : Int32).toInt ≤ 1)) args s 0 0 (fun _ => False)) (F0 m 2 ls []) := by
    intro n_89794
    induction n_89794 with
    | zero =>
      intro x_89793 ls h_x_89793 hm_89794 hl
      exfalso; omega
    | succ n_89794 ih_89794 =>
      intro x_89793 ls h_x_89793 hm_89794 hl
      refine lv_iload_n hx hb dX3_comesBack_2 rfl (lv_at hl 0 rfl) ?_
      refine lv_aload_n hx hb dX3_comesBack_3 rfl (lv_at hl 1 rfl) ?_
      refine va_get (D := D) (ci := 3) (v := .ref n) (C := RX3) (T := TX3) (N := 10) hx hb hts inlX3 hown hK hP 0 rfl rfl 0 (by decide) (hts (Cond.fieldLink RX3 31 "ChanceRings$Outcome" "net" "LChanceRings$Net;") qw_619) (fun _ h9 => h9) rfl dX3_comesBack_4 ?_
      refine va_get (D := D) (ci := 2) (v := .int n_nodes) (C := RX2) (T := TX2) (N := 8) hx hb hts inlX2 hown hK hP 1 rfl rfl 0 (by decide) (hts (Cond.fieldLink RX3 63 "ChanceRings$Net" "nodes" "I") qw_620) (fun _ h9 => h9) rfl dX3_comesBack_7 ?_
      refine lv_icmp_ge (tgt := 47) hx hb dX3_comesBack_10 (by decide) (fun c_89795 => ?_) (fun c_89795 => ?_)
      · skip
        refine lv_aload_n hx hb dX3_comesBack_47 rfl (lv_at hl 1 rfl) ?_
        refine va_get (D := D) (ci := 3) (v := .ref n) (C := RX3) (T := TX3) (N := 10) hx hb hts inlX3 hown hK hP 0 rfl rfl 0 (by decide) (hts (Cond.fieldLink RX3 31 "ChanceRings$Outcome" "net" "LChanceRings$Net;") qw_619) (fun _ h9 => h9) rfl dX3_comesBack_48 ?_
        refine va_get (D := D) (ci := 2) (v := .ref n_kind) (C := RX2) (T := TX2) (N := 8) hx hb hts inlX2 hown hK hP 1 rfl rfl 1 (by decide) (hts (Cond.fieldLink RX3 96 "ChanceRings$Net" "kind" "[I") qw_626) (fun _ h9 => h9) rfl dX3_comesBack_51 ?_
        refine lv_iload_n hx hb dX3_comesBack_54 rfl (lv_at hl 2 rfl) ?_
        refine va_iald hx hb hK hP 2 0 rfl rfl (tr_in h_p0 (by decide) (by decide)) dX3_comesBack_55 ?_
        refine lv_topi (fun v_89798 v_89798_e => ?_)
        have h_v_89798 : 0 ≤ (v_89798 : Int32).toInt ∧ (v_89798 : Int32).toInt ≤ 3 := by rw [v_89798_e]; exact h_n_fkind _
        refine lv_if_eq (tgt := 63) hx hb dX3_comesBack_56 (by decide) (fun c_89799 => ?_) (fun c_89799 => ?_)
        · skip
          have c_89799_i : (v_89798 : Int32).toInt = (0 : Int32).toInt := congrArg Int32.toInt c_89799
          have h_89800 : 0 ≤ (v_89798 : Int32).toInt ∧ (v_89798 : Int32).toInt ≤ 0 := nr_eq_l h_v_89798 (⟨by decide, by decide⟩ : 0 ≤ (0 : Int32).toInt ∧ (0 : Int32).toInt ≤ 0) c_89799_i (by decide) (by decide)
          refine lv_iconst (v := 0) hx hb dX3_comesBack_63 (by decide) ?_
          exact W.zret (v := 0) hx hb hr (by decide) (fun t ht hW => ⟨0, rfl, (⟨by decide, by decide⟩ : 0 ≤ (0 : Int32).toInt ∧ (0 : Int32).toInt ≤ 1), ht⟩) (fun _ h => nomatch h) dX3_comesBack_64
        · skip
          have c_89799_i : ¬ (v_89798 : Int32).toInt = (0 : Int32).toInt := (fun q => c_89799 (Int32.toInt_inj.mp q))
          have h_89801 : 1 ≤ (v_89798 : Int32).toInt ∧ (v_89798 : Int32).toInt ≤ 3 := nr_ne_l h_v_89798 (⟨by decide, by decide⟩ : 0 ≤ (0 : Int32).toInt ∧ (0 : Int32).toInt ≤ 0) c_89799_i (by decide) (by decide)
          refine lv_iconst (v := 1) hx hb dX3_comesBack_59 (by decide) ?_
          refine lv_goto (tgt := 64) hx hb dX3_comesBack_60 (by decide) ?_
          exact W.zret (v := 1) hx hb hr (by decide) (fun t ht hW => ⟨1, rfl, (⟨by decide, by decide⟩ : 0 ≤ (1 : Int32).toInt ∧ (1 : Int32).toInt ≤ 1), ht⟩) (fun _ h => nomatch h) dX3_comesBack_64
      · skip
        have c_89795_i := Int32.lt_iff_toInt_lt.mp (Int32.not_le.mp c_89795)
        have h_89796 : 0 ≤ (x_89793 : Int32).toInt ∧ (x_89793 : Int32).toInt ≤ 11 := nr_lt_l h_x_89793 h_n_nodes c_89795_i (by decide) (by decide)
        have h_89797 : 1 ≤ (n_nodes : Int32).toInt ∧ (n_nodes : Int32).toInt ≤ 12 := nr_lt_r h_x_89793 h_n_nodes c_89795_i (by decide) (by decide)
        refine lv_aload_n hx hb dX3_comesBack_13 rfl (lv_at hl 1 rfl) ?_
        refine va_get (D := D) (ci := 3) (v := .ref oc_reach) (C := RX3) (T := TX3) (N := 10) hx hb hts inlX3 hown hK hP 0 rfl rfl 5 (by decide) (hts (Cond.fieldLink RX3 25 "ChanceRings$Outcome" "reach" "[I") qw_621) (fun _ h9 => h9) rfl dX3_comesBack_14 ?_
        refine lv_iload_n hx hb dX3_comesBack_17 rfl (lv_at hl 2 rfl) ?_
        refine va_iald hx hb hK hP 3 0 rfl rfl (tr_in h_p0 (by decide) (by decide)) dX3_comesBack_18 ?_
        refine lv_topi (fun v_89802 v_89802_e => ?_)
        refine lv_iload_n hx hb dX3_comesBack_19 rfl (lv_at hl 0 rfl) ?_
        refine lv_ishr hx hb dX3_comesBack_20 ?_
        refine lv_topi (fun v_89803 v_89803_e => ?_)
        refine lv_iconst (v := 1) hx hb dX3_comesBack_21 (by decide) ?_
        refine lv_iand hx hb dX3_comesBack_22 ?_
        refine lv_topi (fun v_89804 v_89804_e => ?_)
        refine lv_if_eq (tgt := 41) hx hb dX3_comesBack_23 (by decide) (fun c_89805 => ?_) (fun c_89805 => ?_)
        · skip
          have h_89806 : 0 ≤ (v_89804 : Int32).toInt ∧ (v_89804 : Int32).toInt ≤ 0 := by rw [c_89805]; exact ⟨by decide, by decide⟩
          obtain ⟨v_89807, v_89807_e⟩ : ∃ y : Int32, y = x_89793 + Int32.ofInt 1 := ⟨_, rfl⟩
          have h_v_89807 : 1 ≤ (v_89807 : Int32).toInt ∧ (v_89807 : Int32).toInt ≤ 12 := by rw [v_89807_e]; exact tr_add h_89796 (⟨by decide, by decide⟩ : 1 ≤ (Int32.ofInt 1 : Int32).toInt ∧ (Int32.ofInt 1 : Int32).toInt ≤ 1) (by decide) (by decide) (by decide) (by decide)
          have q_v_89807 : v_89807.toInt = x_89793.toInt + 1 := by rw [v_89807_e]; exact tr_addE h_89796 (⟨by decide, by decide⟩ : 1 ≤ (Int32.ofInt 1 : Int32).toInt ∧ (Int32.ofInt 1 : Int32).toInt ≤ 1) (by decide) (by decide)
          refine lv_iinc (v := v_89807) (lv' := [(2, .int v_89807), (0, .ref oc), (1, .int p0)]) hx hb dX3_comesBack_41 hl (k := 0) rfl v_89807_e.symm (by decide) rfl (fun ls hl => ?_)
          refine lv_goto (tgt := 2) hx hb dX3_comesBack_44 (by decide) ?_
          exact ih_89794 v_89807 ls (tr_w h_v_89807 (by decide) (by decide)) (by (first | (clear h_p0 h_orc h_ose h_89806; omega) | omega)) (lv_sub hl [0, 1, 2] rfl)
        · skip
          refine lv_aload_n hx hb dX3_comesBack_26 rfl (lv_at hl 1 rfl) ?_
          refine va_get (D := D) (ci := 3) (v := .ref oc_reach) (C := RX3) (T := TX3) (N := 10) hx hb hts inlX3 hown hK hP 0 rfl rfl 5 (by decide) (hts (Cond.fieldLink RX3 25 "ChanceRings$Outcome" "reach" "[I") qw_621) (fun _ h9 => h9) rfl dX3_comesBack_27 ?_
          refine lv_iload_n hx hb dX3_comesBack_30 rfl (lv_at hl 0 rfl) ?_
          refine va_iald hx hb hK hP 3 0 rfl rfl (tr_in h_89796 (by decide) (by decide)) dX3_comesBack_31 ?_
          refine lv_topi (fun v_89808 v_89808_e => ?_)
          refine lv_iload_n hx hb dX3_comesBack_32 rfl (lv_at hl 2 rfl) ?_
          refine lv_ishr hx hb dX3_comesBack_33 ?_
          refine lv_topi (fun v_89809 v_89809_e => ?_)
          refine lv_iconst (v := 1) hx hb dX3_comesBack_34 (by decide) ?_
          refine lv_iand hx hb dX3_comesBack_35 ?_
          refine lv_topi (fun v_89810 v_89810_e => ?_)
          refine lv_if_ne (tgt := 41) hx hb dX3_comesBack_36 (by decide) (fun c_89811 => ?_) (fun c_89811 => ?_)
          · skip
            obtain ⟨v_89813, v_89813_e⟩ : ∃ y : Int32, y = x_89793 + Int32.ofInt 1 := ⟨_, rfl⟩
            have h_v_89813 : 1 ≤ (v_89813 : Int32).toInt ∧ (v_89813 : Int32).toInt ≤ 12 := by rw [v_89813_e]; exact tr_add h_89796 (⟨by decide, by decide⟩ : 1 ≤ (Int32.ofInt 1 : Int32).toInt ∧ (Int32.ofInt 1 : Int32).toInt ≤ 1) (by decide) (by decide) (by decide) (by decide)
            have q_v_89813 : v_89813.toInt = x_89793.toInt + 1 := by rw [v_89813_e]; exact tr_addE h_89796 (⟨by decide, by decide⟩ : 1 ≤ (Int32.ofInt 1 : Int32).toInt ∧ (Int32.ofInt 1 : Int32).toInt ≤ 1) (by decide) (by decide)
            refine lv_iinc (v := v_89813) (lv' := [(2, .int v_89813), (0, .ref oc), (1, .int p0)]) hx hb dX3_comesBack_41 hl (k := 0) rfl v_89813_e.symm (by decide) rfl (fun ls hl => ?_)
            refine lv_goto (tgt := 2) hx hb dX3_comesBack_44 (by decide) ?_
            exact ih_89794 v_89813 ls (tr_w h_v_89813 (by decide) (by decide)) (by omega) (lv_sub hl [0, 1, 2] rfl)
          · skip
            have h_89812 : 0 ≤ (v_89810 : Int32).toInt ∧ (v_89810 : Int32).toInt ≤ 0 := by rw [c_89811]; exact ⟨by decide, by decide⟩
            refine lv_iconst (v := 0) hx hb dX3_comesBack_39 (by decide) ?_
            exact W.zret (v := 0) hx hb hr (by decide) (fun t ht hW => ⟨0, rfl, (⟨by decide, by decide⟩ : 0 ≤ (0 : Int32).toInt ∧ (0 : Int32).toInt ≤ 1), ht⟩) (fun _ h => nomatch h) dX3_comesBack_40
  exact lp_89794 13 0 ls (⟨by decide, by decide⟩ : 0 ≤ (0 : Int32).toInt ∧ (0 : Int32).toInt ≤ 12) (by decide) (lv_sub hl [0, 1, 2] rfl)
set_option maxHeartbeats 4000000 in
set_option maxRecDepth 100000 in
theorem c_X3_comesToRing (l : Launch) (D : va_G) (g : Nat → ClassId) (oc : Nat) (p0 : Int32) (n : Nat) (sv : Nat) (oc_plan : Nat) (ow : Nat) (ol : Nat) (oc_reach : Nat) (oc_ringBits : Nat) (orc : Int32) (orn : Int32) (ose : Int32) (orf : Nat → Int32) (h_p0 : 0 ≤ (p0 : Int32).toInt ∧ (p0 : Int32).toInt ≤ 11) (h_orc : 0 ≤ (orc : Int32).toInt ∧ (orc : Int32).toInt ≤ 12) (h_ose : 0 ≤ (ose : Int32).toInt ∧ (ose : Int32).toInt ≤ 1) : Met l yX3_comesToRing (.code yX3_comesToRing cX3_comesToRing 2 (some .boolean) :: wsL_law) ({ frames := 0, cells := 0, slots := 0, locals := 0 }) (va_Pc [.ref oc, .int p0] (fun U => va_P D vwCl [(wO3 oc n sv oc_plan ow ol oc_reach oc_ringBits orc orn ose), (wI g oc_reach 0 12 orf)] U.heap ∧ va_K D vwCl (TY g) U)) (vp_Si (fun r => 0 ≤ (r : Int32).toInt ∧ (r : Int32).toInt ≤ 1)) 0 0 (fun _ => False) := by
  refine Met.ofW (cc := cX3_comesToRing) (maxL := 2) (ret := (some .boolean)) (by decide) rfl ?_
  intro p e s m args below meth c s₁ B hml hv
  obtain ⟨ha, hP, hK⟩ := hv
  have hx := B.exec
  have hb := B.bytes
  have hr := B.returns
  have hts0 := atoms_spec (ws := (.code yX3_comesToRing cX3_comesToRing 2 (some .boolean) :: wsL_law)) B.pre
  have hts : ∀ w ∈ wsL_law, w.before args s = true := fun w h => hts0 w (List.mem_cons_of_mem _ h)
  have hown : s.vm.findClass RX3 = some m.cls := findClass_of_methodNamed B.named
  have hlocks := B.notSynchronized
  have hP : va_P D vwCl [(wO3 oc n sv oc_plan ow ol oc_reach oc_ringBits orc orn ose), (wI g oc_reach 0 12 orf)] s.heap := hP
  refine W.eq (g2 := entryFrame m ([.ref oc, .int p0] : List Value).toArray 2) (by rw [ha]) ?_
  have hl := lv_entry ([.ref oc, .int p0]) (n := 2) (Nat.le_of_ble_eq_true rfl)
  rw [lg_entry_eq]
  generalize (lg_sl ([.ref oc, .int p0]) ++ List.replicate (2 - (lg_sl ([.ref oc, .int p0])).length) Slot.unset).toArray = ls at hl ⊢
  have hl : lv_has ls 2 [(0, .ref oc), (1, .int p0)] := hl
  refine lv_aload_n hx hb dX3_comesToRing_0 rfl (lv_at hl 0 rfl) ?_
  refine va_get (D := D) (ci := 3) (v := .ref oc_reach) (C := RX3) (T := TX3) (N := 10) hx hb hts inlX3 hown hK hP 0 rfl rfl 5 (by decide) (hts (Cond.fieldLink RX3 25 "ChanceRings$Outcome" "reach" "[I") qw_621) (fun _ h9 => h9) rfl dX3_comesToRing_1 ?_
  refine lv_iload_n hx hb dX3_comesToRing_4 rfl (lv_at hl 1 rfl) ?_
  refine va_iald hx hb hK hP 1 0 rfl rfl (tr_in h_p0 (by decide) (by decide)) dX3_comesToRing_5 ?_
  refine lv_topi (fun v_89814 v_89814_e => ?_)
  refine lv_aload_n hx hb dX3_comesToRing_6 rfl (lv_at hl 0 rfl) ?_
  refine va_get (D := D) (ci := 3) (v := .int orn) (C := RX3) (T := TX3) (N := 10) hx hb hts inlX3 hown hK hP 0 rfl rfl 8 (by decide) (hts (Cond.fieldLink RX3 90 "ChanceRings$Outcome" "ringNodes" "I") qw_627) (fun _ h9 => h9) rfl dX3_comesToRing_7 ?_
  refine lv_iand hx hb dX3_comesToRing_10 ?_
  refine lv_topi (fun v_89815 v_89815_e => ?_)
  refine lv_if_eq (tgt := 18) hx hb dX3_comesToRing_11 (by decide) (fun c_89816 => ?_) (fun c_89816 => ?_)
  · skip
    have h_89817 : 0 ≤ (v_89815 : Int32).toInt ∧ (v_89815 : Int32).toInt ≤ 0 := by rw [c_89816]; exact ⟨by decide, by decide⟩
    refine lv_iconst (v := 0) hx hb dX3_comesToRing_18 (by decide) ?_
    exact W.zret (v := 0) hx hb hr (by decide) (fun t ht hW => ⟨0, rfl, (⟨by decide, by decide⟩ : 0 ≤ (0 : Int32).toInt ∧ (0 : Int32).toInt ≤ 1), ht⟩) (fun _ h => nomatch h) dX3_comesToRing_19
  · skip
    refine lv_iconst (v := 1) hx hb dX3_comesToRing_14 (by decide) ?_
    refine lv_goto (tgt := 19) hx hb dX3_comesToRing_15 (by decide) ?_
    exact W.zret (v := 1) hx hb hr (by decide) (fun t ht hW => ⟨1, rfl, (⟨by decide, by decide⟩ : 0 ≤ (1 : Int32).toInt ∧ (1 : Int32).toInt ≤ 1), ht⟩) (fun _ h => nomatch h) dX3_comesToRing_19
set_option maxHeartbeats 4000000 in
set_option maxRecDepth 100000 in
theorem c_X3_findRings (l : Launch) (D : va_G) (g : Nat → ClassId) (sz : Nat) (oc : Nat) (n : Nat) (sv : Nat) (oc_plan : Nat) (ow : Nat) (ol : Nat) (oc_reach : Nat) (oc_ringBits : Nat) (orc : Int32) (orn : Int32) (ose : Int32) (n_nodes : Int32) (n_kind : Nat) (n_pay : Nat) (n_name : Nat) (n_ways : Nat) (n_held : Nat) (n_targets : Nat) (n_weights : Nat) (n_fkind : Nat → Int32) (orf : Nat → Int32) (obf : Nat → Int32) (h_orc : 0 ≤ (orc : Int32).toInt ∧ (orc : Int32).toInt ≤ 12) (h_ose : 0 ≤ (ose : Int32).toInt ∧ (ose : Int32).toInt ≤ 1) (h_n_nodes : 0 ≤ (n_nodes : Int32).toInt ∧ (n_nodes : Int32).toInt ≤ 12) (h_n_fkind : ∀ j : Nat, 0 ≤ (n_fkind j).toInt ∧ (n_fkind j).toInt ≤ 3) : Met l yX3_findRings (.code yX3_findRings cX3_findRings 2 none :: wsL_law) ({ frames := 1, cells := 0, slots := 0, locals := 22 }) (va_Pc [.ref oc] (fun U => U.heap.size = sz ∧ va_P D vwCl [(wO3 oc n sv oc_plan ow ol oc_reach oc_ringBits orc orn ose), (wO2 n n_nodes n_kind n_pay n_name n_ways n_held n_targets n_weights), (wI g n_kind 0 12 n_fkind), (wI g oc_reach 0 12 orf), (wI g oc_ringBits 0 12 obf)] U.heap ∧ va_K D vwCl (TY g) U ∧ va_D (fun _ => True) [(wO3 oc n sv oc_plan ow ol oc_reach oc_ringBits orc orn ose), (wO2 n n_nodes n_kind n_pay n_name n_ways n_held n_targets n_weights), (wI g n_kind 0 12 n_fkind), (wI g oc_reach 0 12 orf), (wI g oc_ringBits 0 12 obf)])) (va_Qv (fun (_ : Unit) => True) (fun _ t => ∃ xrc : Int32, ∃ xrn : Int32, ∃ xbf : Nat → Int32, (0 ≤ (xrc : Int32).toInt ∧ (xrc : Int32).toInt ≤ 12) ∧ va_P D vwCl [(wO3 oc n sv oc_plan ow ol oc_reach oc_ringBits xrc xrn ose), (wO2 n n_nodes n_kind n_pay n_name n_ways n_held n_targets n_weights), (wI g n_kind 0 12 n_fkind), (wI g oc_reach 0 12 orf), (wI g oc_ringBits 0 12 xbf)] t.heap ∧ va_D (va_A [(wO3 oc n sv oc_plan ow ol oc_reach oc_ringBits orc orn ose), (wO2 n n_nodes n_kind n_pay n_name n_ways n_held n_targets n_weights), (wI g n_kind 0 12 n_fkind), (wI g oc_reach 0 12 orf), (wI g oc_ringBits 0 12 obf)] sz) [(wO3 oc n sv oc_plan ow ol oc_reach oc_ringBits xrc xrn ose), (wO2 n n_nodes n_kind n_pay n_name n_ways n_held n_targets n_weights), (wI g n_kind 0 12 n_fkind), (wI g oc_reach 0 12 orf), (wI g oc_ringBits 0 12 xbf)]) (va_A [(wO3 oc n sv oc_plan ow ol oc_reach oc_ringBits orc orn ose), (wO2 n n_nodes n_kind n_pay n_name n_ways n_held n_targets n_weights), (wI g n_kind 0 12 n_fkind), (wI g oc_reach 0 12 orf), (wI g oc_ringBits 0 12 obf)] sz)) 0 0 (va_A [(wO3 oc n sv oc_plan ow ol oc_reach oc_ringBits orc orn ose), (wO2 n n_nodes n_kind n_pay n_name n_ways n_held n_targets n_weights), (wI g n_kind 0 12 n_fkind), (wI g oc_reach 0 12 orf), (wI g oc_ringBits 0 12 obf)] sz) := by
  refine Met.ofW (cc := cX3_findRings) (maxL := 2) (ret := none) (by decide) rfl ?_
  intro p e s m args below meth c s₁ B hml hv
  obtain ⟨ha, hsz, hP, hK, hD0⟩ := hv
  have hx := B.exec
  have hb := B.bytes
  have hr := B.returns
  have hts0 := atoms_spec (ws := (.code yX3_findRings cX3_findRings 2 none :: wsL_law)) B.pre
  have hts : ∀ w ∈ wsL_law, w.before args s = true := fun w h => hts0 w (List.mem_cons_of_mem _ h)
  have hown : s.vm.findClass RX3 = some m.cls := findClass_of_methodNamed B.named
  have hlocks := B.notSynchronized
  subst hsz
  have hD := hD0.self (sz := s.heap.size)
  generalize hAe : va_A [(wO3 oc n sv oc_plan ow ol oc_reach oc_ringBits orc orn ose), (wO2 n n_nodes n_kind n_pay n_name n_ways n_held n_targets n_weights), (wI g n_kind 0 12 n_fkind), (wI g oc_reach 0 12 orf), (wI g oc_ringBits 0 12 obf)] s.heap.size = A at hD ⊢
  have hA : ∀ q : Nat, s.heap.size ≤ q → A q := fun q h => by rw [← hAe]; exact Or.inr h
  have hS : va_S A s.heap s.heap [] := va_S.rf
  have hP : va_P D vwCl [(wO3 oc n sv oc_plan ow ol oc_reach oc_ringBits orc orn ose), (wO2 n n_nodes n_kind n_pay n_name n_ways n_held n_targets n_weights), (wI g n_kind 0 12 n_fkind), (wI g oc_reach 0 12 orf), (wI g oc_ringBits 0 12 obf)] s.heap := hP
  refine W.eq (g2 := entryFrame m ([.ref oc] : List Value).toArray 2) (by rw [ha]) ?_
  have hl := lv_entry ([.ref oc]) (n := 2) (Nat.le_of_ble_eq_true rfl)
  rw [lg_entry_eq]
  generalize (lg_sl ([.ref oc]) ++ List.replicate (2 - (lg_sl ([.ref oc])).length) Slot.unset).toArray = ls at hl ⊢
  have hl : lv_has ls 2 [(0, .ref oc)] := hl
  refine lv_aload_n hx hb dX3_findRings_0 rfl (lv_at hl 0 rfl) ?_
  refine lv_iconst (v := 0) hx hb dX3_findRings_1 (by decide) ?_
  refine va_put (D := D) (ci := 3) (v := .int 0) (ty := .int) (C := RX3) (T := TX3) (N := 10) hx hb hts inlX3 tyX3 tyX3_ok nmX3 hown hK hP hD hS 0 rfl rfl 7 (by decide) (hts (Cond.fieldLink RX3 87 "ChanceRings$Outcome" "ringCount" "I") qw_628) (fun _ h9 => h9) rfl (by decide +kernel) rfl rfl (Nat.le_of_ble_eq_true rfl) dX3_findRings_2 (fun H locs hP hD hS => ?_)
  have hP : va_P D vwCl [(wO3 oc n sv oc_plan ow ol oc_reach oc_ringBits 0 orn ose), (wO2 n n_nodes n_kind n_pay n_name n_ways n_held n_targets n_weights), (wI g n_kind 0 12 n_fkind), (wI g oc_reach 0 12 orf), (wI g oc_ringBits 0 12 obf)] H := hP
  have hD : va_D A [(wO3 oc n sv oc_plan ow ol oc_reach oc_ringBits 0 orn ose), (wO2 n n_nodes n_kind n_pay n_name n_ways n_held n_targets n_weights), (wI g n_kind 0 12 n_fkind), (wI g oc_reach 0 12 orf), (wI g oc_ringBits 0 12 obf)] := hD
  refine lv_aload_n hx hb dX3_findRings_5 rfl (lv_at hl 0 rfl) ?_
  refine lv_iconst (v := 0) hx hb dX3_findRings_6 (by decide) ?_
  refine va_put (D := D) (ci := 3) (v := .int 0) (ty := .int) (C := RX3) (T := TX3) (N := 10) hx hb hts inlX3 tyX3 tyX3_ok nmX3 hown hK hP hD hS 0 rfl rfl 8 (by decide) (hts (Cond.fieldLink RX3 90 "ChanceRings$Outcome" "ringNodes" "I") qw_627) (fun _ h9 => h9) rfl (by decide +kernel) rfl rfl (Nat.le_of_ble_eq_true rfl) dX3_findRings_7 (fun H locs hP hD hS => ?_)
  have hP : va_P D vwCl [(wO3 oc n sv oc_plan ow ol oc_reach oc_ringBits 0 0 ose), (wO2 n n_nodes n_kind n_pay n_name n_ways n_held n_targets n_weights), (wI g n_kind 0 12 n_fkind), (wI g oc_reach 0 12 orf), (wI g oc_ringBits 0 12 obf)] H := hP
  have hD : va_D A [(wO3 oc n sv oc_plan ow ol oc_reach oc_ringBits 0 0 ose), (wO2 n n_nodes n_kind n_pay n_name n_ways n_held n_targets n_weights), (wI g n_kind 0 12 n_fkind), (wI g oc_reach 0 12 orf), (wI g oc_ringBits 0 12 obf)] := hD
  refine lv_iconst (v := 0) hx hb dX3_findRings_10 (by decide) ?_
  refine lv_istore_n (lv' := [(1, .int 0), (0, .ref oc)]) hx hb dX3_findRings_11 rfl hl (by decide) rfl (fun ls hl => ?_)
  have lp_90004 : ∀ (n_90004 : Nat) (x_90000 : Int32) (x_90001 : Int32) (x_90002 : Int32) (f_90003 : Nat → Int32) (H : Heap) (locs : List Loc) (ls : Array Slot), (0 ≤ (x_90000 : Int32).toInt ∧ (x_90000 : Int32).toInt ≤ 12) → (0 ≤ (x_90001 : Int32).toInt ∧ (x_90001 : Int32).toInt ≤ 12) → (x_90000.toInt ≤ (x_90001 : Int32).toInt) → (12 - x_90001.toInt < (n_90004 : Int)) → va_P D vwCl [(wO3 oc n sv oc_plan ow ol oc_reach oc_ringBits x_90000 x_90002 ose), (wO2 n n_nodes n_kind n_pay n_name n_ways n_held n_targets n_weights), (wI g n_kind 0 12 n_fkind), (wI g oc_reach 0 12 orf), (wI g oc_ringBits 0 12 f_90003)] H → va_D A [(wO3 oc n sv oc_plan ow ol oc_reach oc_ringBits x_90000 x_90002 ose), (wO2 n n_nodes n_kind n_pay n_name n_ways n_held n_targets n_weights), (wI g n_kind 0 12 n_fkind), (wI g oc_reach 0 12 orf), (wI g oc_ringBits 0 12 f_90003)] → va_S A s.heap H locs → lv_has ls 2 [(1, .int x_90001), (0, .ref oc)] → W p l e (headSpec (.code yX3_findRings cX3_findRings 2 none :: wsL_law) ({ frames := 1, cells := 0, slots := 0, locals := 22 })).room s m args below meth c H locs 0 0 (MQ below (va_Qv (fun (_ : Unit) => True) (fun _ t => ∃ xrc : Int32, ∃ xrn : Int32, ∃ xbf : Nat → Int32, (0 ≤ (xrc : Int32).toInt ∧ (xrc : Int32).toInt ≤ 12) ∧ va_P D vwCl [(wO3 oc n sv oc_plan ow ol oc_reach oc_ringBits xrc xrn ose), (wO2 n n_nodes n_kind n_pay n_name n_ways n_held n_targets n_weights), (wI g n_kind 0 12 n_fkind), (wI g oc_reach 0 12 orf), (wI g oc_ringBits 0 12 xbf)] t.heap ∧ va_D A [(wO3 oc n sv oc_plan ow ol oc_reach oc_ringBits xrc xrn ose), (wO2 n n_nodes n_kind n_pay n_name n_ways n_held n_targets n_weights), (wI g n_kind 0 12 n_fkind), (wI g oc_reach 0 12 orf), (wI g oc_ringBits 0 12 xbf)]) A) args s 0 0 A) (F0 m 12 ls []) := by
    intro n_90004
    induction n_90004 with
    | zero =>
      intro x_90000 x_90001 x_90002 f_90003 H locs ls h_x_90000 h_x_90001 hr90004_0 hm_90004 hP hD hS hl
      exfalso; omega
    | succ n_90004 ih_90004 =>
      intro x_90000 x_90001 x_90002 f_90003 H locs ls h_x_90000 h_x_90001 hr90004_0 hm_90004 hP hD hS hl
      refine lv_iload_n hx hb dX3_findRings_12 rfl (lv_at hl 0 rfl) ?_
      refine lv_aload_n hx hb dX3_findRings_13 rfl (lv_at hl 1 rfl) ?_
      refine va_get (D := D) (ci := 3) (v := .ref n) (C := RX3) (T := TX3) (N := 10) hx hb hts inlX3 hown hK hP 0 rfl rfl 0 (by decide) (hts (Cond.fieldLink RX3 31 "ChanceRings$Outcome" "net" "LChanceRings$Net;") qw_619) (fun _ h9 => h9) rfl dX3_findRings_14 ?_
      refine va_get (D := D) (ci := 2) (v := .int n_nodes) (C := RX2) (T := TX2) (N := 8) hx hb hts inlX2 hown hK hP 1 rfl rfl 0 (by decide) (hts (Cond.fieldLink RX3 63 "ChanceRings$Net" "nodes" "I") qw_620) (fun _ h9 => h9) rfl dX3_findRings_17 ?_
      refine lv_icmp_ge (tgt := 88) hx hb dX3_findRings_20 (by decide) (fun c_90005 => ?_) (fun c_90005 => ?_)
      · skip
        have hP9 := hP.sub (ws' := [(wO3 oc n sv oc_plan ow ol oc_reach oc_ringBits x_90000 x_90002 ose), (wO2 n n_nodes n_kind n_pay n_name n_ways n_held n_targets n_weights), (wI g n_kind 0 12 n_fkind), (wI g oc_reach 0 12 orf), (wI g oc_ringBits 0 12 f_90003)]) [0, 1, 2, 3, 4] rfl
        have hD9 := hD.sub (ws' := [(wO3 oc n sv oc_plan ow ol oc_reach oc_ringBits x_90000 x_90002 ose), (wO2 n n_nodes n_kind n_pay n_name n_ways n_held n_targets n_weights), (wI g n_kind 0 12 n_fkind), (wI g oc_reach 0 12 orf), (wI g oc_ringBits 0 12 f_90003)]) [0, 1, 2, 3, 4] (by decide) rfl
        exact W.vret hx hb hr (fun t ht hW => ⟨⟨(), rfl, trivial, x_90000, x_90002, f_90003, (tr_w h_x_90000 (by decide) (by decide)), by rw [ht]; exact hP9, hD9⟩, hS.F ht⟩) hS.2.2 dX3_findRings_88
      · skip
        have c_90005_i := Int32.lt_iff_toInt_lt.mp (Int32.not_le.mp c_90005)
        have h_90006 : 0 ≤ (x_90001 : Int32).toInt ∧ (x_90001 : Int32).toInt ≤ 11 := nr_lt_l h_x_90001 h_n_nodes c_90005_i (by decide) (by decide)
        have h_90007 : 1 ≤ (n_nodes : Int32).toInt ∧ (n_nodes : Int32).toInt ≤ 12 := nr_lt_r h_x_90001 h_n_nodes c_90005_i (by decide) (by decide)
        refine lv_aload_n hx hb dX3_findRings_23 rfl (lv_at hl 1 rfl) ?_
        refine va_get (D := D) (ci := 3) (v := .int x_90002) (C := RX3) (T := TX3) (N := 10) hx hb hts inlX3 hown hK hP 0 rfl rfl 8 (by decide) (hts (Cond.fieldLink RX3 90 "ChanceRings$Outcome" "ringNodes" "I") qw_627) (fun _ h9 => h9) rfl dX3_findRings_24 ?_
        refine lv_iload_n hx hb dX3_findRings_27 rfl (lv_at hl 0 rfl) ?_
        refine lv_ishr hx hb dX3_findRings_28 ?_
        refine lv_topi (fun v_90008 v_90008_e => ?_)
        have h_90009 : 0 ≤ (x_90000 : Int32).toInt ∧ (x_90000 : Int32).toInt ≤ 11 := by (first | (clear h_orc h_ose h_n_nodes h_x_90001 c_90005_i h_90006 h_90007; omega) | omega)
        refine lv_iconst (v := 1) hx hb dX3_findRings_29 (by decide) ?_
        refine lv_iand hx hb dX3_findRings_30 ?_
        refine lv_topi (fun v_90010 v_90010_e => ?_)
        refine lv_if_ne (tgt := 82) hx hb dX3_findRings_31 (by decide) (fun c_90011 => ?_) (fun c_90011 => ?_)
        · skip
          obtain ⟨v_90013, v_90013_e⟩ : ∃ y : Int32, y = x_90001 + Int32.ofInt 1 := ⟨_, rfl⟩
          have h_v_90013 : 1 ≤ (v_90013 : Int32).toInt ∧ (v_90013 : Int32).toInt ≤ 12 := by rw [v_90013_e]; exact tr_add h_90006 (⟨by decide, by decide⟩ : 1 ≤ (Int32.ofInt 1 : Int32).toInt ∧ (Int32.ofInt 1 : Int32).toInt ≤ 1) (by decide) (by decide) (by decide) (by decide)
          have q_v_90013 : v_90013.toInt = x_90001.toInt + 1 := by rw [v_90013_e]; exact tr_addE h_90006 (⟨by decide, by decide⟩ : 1 ≤ (Int32.ofInt 1 : Int32).toInt ∧ (Int32.ofInt 1 : Int32).toInt ≤ 1) (by decide) (by decide)
          refine lv_iinc (v := v_90013) (lv' := [(1, .int v_90013), (0, .ref oc)]) hx hb dX3_findRings_82 hl (k := 0) rfl v_90013_e.symm (by decide) rfl (fun ls hl => ?_)
          refine lv_goto (tgt := 12) hx hb dX3_findRings_85 (by decide) ?_
          exact ih_90004 x_90000 v_90013 x_90002 f_90003 H _ ls (tr_w h_90009 (by decide) (by decide)) (tr_w h_v_90013 (by decide) (by decide)) (by omega) (by omega) (hP.sub [0, 1, 2, 3, 4] rfl) (hD.sub [0, 1, 2, 3, 4] (by decide) rfl) hS (lv_sub hl [0, 1] rfl)
        · skip
          have h_90012 : 0 ≤ (v_90010 : Int32).toInt ∧ (v_90010 : Int32).toInt ≤ 0 := by rw [c_90011]; exact ⟨by decide, by decide⟩
          refine lv_aload_n hx hb dX3_findRings_34 rfl (lv_at hl 1 rfl) ?_
          refine lv_iload_n hx hb dX3_findRings_35 rfl (lv_at hl 0 rfl) ?_
          have hPc := hP.sub (ws' := [(wO3 oc n sv oc_plan ow ol oc_reach oc_ringBits x_90000 x_90002 ose), (wO2 n n_nodes n_kind n_pay n_name n_ways n_held n_targets n_weights), (wI g n_kind 0 12 n_fkind), (wI g oc_reach 0 12 orf)]) [0, 1, 2, 3] rfl
          refine vp_callSi (va_Run.run (va_runV (As := [.int x_90001]) (rest := []) ⟨hx, hb, hml, hown, hts⟩ (c_X3_comesBack l D g oc x_90001 n sv oc_plan ow ol oc_reach oc_ringBits x_90000 x_90002 ose n_nodes n_kind n_pay n_name n_ways n_held n_targets n_weights n_fkind orf (tr_w h_90006 (by decide) (by decide)) (tr_w h_90009 (by decide) (by decide)) (tr_w h_ose (by decide) (by decide)) (tr_w h_90007 (by decide) (by decide)) (tr_wa h_n_fkind (by decide) (by decide))) (cwV 1 hts (tz_gV qw_629 qw_630 qw_631 qw_632 qw_633) rfl rfl rfl (by decide +kernel) ⟨Nat.le_of_ble_eq_true rfl, Nat.le_of_ble_eq_true rfl⟩) ⟨tz_blS, va_recv hK hPc (ci := 3) (q0 := 0) rfl rfl, tz_preS hPc hK⟩ rfl rfl hl.1 rfl (lv_room (Nat.le_of_ble_eq_true rfl)) dX3_findRings_36 ⟨Nat.le_of_ble_eq_true rfl, Nat.le_of_ble_eq_true rfl⟩)) (fun r_90014 hw => ?_)
          have hw_90015 : 0 ≤ (r_90014 : Int32).toInt ∧ (r_90014 : Int32).toInt ≤ 1 := hw
          refine lv_if_eq (tgt := 82) hx hb dX3_findRings_39 (by decide) (fun c_90016 => ?_) (fun c_90016 => ?_)
          · skip
            have c_90016_i : (r_90014 : Int32).toInt = (0 : Int32).toInt := congrArg Int32.toInt c_90016
            have h_90017 : 0 ≤ (r_90014 : Int32).toInt ∧ (r_90014 : Int32).toInt ≤ 0 := nr_eq_l hw_90015 (⟨by decide, by decide⟩ : 0 ≤ (0 : Int32).toInt ∧ (0 : Int32).toInt ≤ 0) c_90016_i (by decide) (by decide)
            obtain ⟨v_90019, v_90019_e⟩ : ∃ y : Int32, y = x_90001 + Int32.ofInt 1 := ⟨_, rfl⟩
            have h_v_90019 : 1 ≤ (v_90019 : Int32).toInt ∧ (v_90019 : Int32).toInt ≤ 12 := by rw [v_90019_e]; exact tr_add h_90006 (⟨by decide, by decide⟩ : 1 ≤ (Int32.ofInt 1 : Int32).toInt ∧ (Int32.ofInt 1 : Int32).toInt ≤ 1) (by decide) (by decide) (by decide) (by decide)
            have q_v_90019 : v_90019.toInt = x_90001.toInt + 1 := by rw [v_90019_e]; exact tr_addE h_90006 (⟨by decide, by decide⟩ : 1 ≤ (Int32.ofInt 1 : Int32).toInt ∧ (Int32.ofInt 1 : Int32).toInt ≤ 1) (by decide) (by decide)
            refine lv_iinc (v := v_90019) (lv' := [(1, .int v_90019), (0, .ref oc)]) hx hb dX3_findRings_82 hl (k := 0) rfl v_90019_e.symm (by decide) rfl (fun ls hl => ?_)
            refine lv_goto (tgt := 12) hx hb dX3_findRings_85 (by decide) ?_
            exact ih_90004 x_90000 v_90019 x_90002 f_90003 H _ ls (tr_w h_90009 (by decide) (by decide)) (tr_w h_v_90019 (by decide) (by decide)) (by (first | (clear h_orc h_ose h_90012 hw_90015 c_90016_i h_90017; omega) | omega)) (by (first | (clear h_orc h_ose h_90012 hw_90015 c_90016_i h_90017; omega) | omega)) (hP.sub [0, 1, 2, 3, 4] rfl) (hD.sub [0, 1, 2, 3, 4] (by decide) rfl) hS (lv_sub hl [0, 1] rfl)
          · skip
            have c_90016_i : ¬ (r_90014 : Int32).toInt = (0 : Int32).toInt := (fun q => c_90016 (Int32.toInt_inj.mp q))
            have h_90018 : 1 ≤ (r_90014 : Int32).toInt ∧ (r_90014 : Int32).toInt ≤ 1 := nr_ne_l hw_90015 (⟨by decide, by decide⟩ : 0 ≤ (0 : Int32).toInt ∧ (0 : Int32).toInt ≤ 0) c_90016_i (by decide) (by decide)
            refine lv_aload_n hx hb dX3_findRings_42 rfl (lv_at hl 1 rfl) ?_
            refine va_get (D := D) (ci := 3) (v := .ref oc_ringBits) (C := RX3) (T := TX3) (N := 10) hx hb hts inlX3 hown hK hP 0 rfl rfl 6 (by decide) (hts (Cond.fieldLink RX3 28 "ChanceRings$Outcome" "ringBits" "[I") qw_634) (fun _ h9 => h9) rfl dX3_findRings_43 ?_
            refine lv_aload_n hx hb dX3_findRings_46 rfl (lv_at hl 1 rfl) ?_
            refine va_get (D := D) (ci := 3) (v := .int x_90000) (C := RX3) (T := TX3) (N := 10) hx hb hts inlX3 hown hK hP 0 rfl rfl 7 (by decide) (hts (Cond.fieldLink RX3 87 "ChanceRings$Outcome" "ringCount" "I") qw_628) (fun _ h9 => h9) rfl dX3_findRings_47 ?_
            refine lv_aload_n hx hb dX3_findRings_50 rfl (lv_at hl 1 rfl) ?_
            refine va_get (D := D) (ci := 3) (v := .ref oc_reach) (C := RX3) (T := TX3) (N := 10) hx hb hts inlX3 hown hK hP 0 rfl rfl 5 (by decide) (hts (Cond.fieldLink RX3 25 "ChanceRings$Outcome" "reach" "[I") qw_621) (fun _ h9 => h9) rfl dX3_findRings_51 ?_
            refine lv_iload_n hx hb dX3_findRings_54 rfl (lv_at hl 0 rfl) ?_
            refine va_iald hx hb hK hP 3 0 rfl rfl (tr_in h_90006 (by decide) (by decide)) dX3_findRings_55 ?_
            refine lv_topi (fun v_90020 v_90020_e => ?_)
            refine va_iast hx hb hK hP hD hS 4 0 rfl rfl (tr_in h_90009 (by decide) (by decide)) dX3_findRings_56 (fun H locs hP hD hS => ?_)
            obtain ⟨f_90021, hP, hD⟩ : ∃ FX : Nat → Int32, va_P D vwCl [(wO3 oc n sv oc_plan ow ol oc_reach oc_ringBits x_90000 x_90002 ose), (wO2 n n_nodes n_kind n_pay n_name n_ways n_held n_targets n_weights), (wI g n_kind 0 12 n_fkind), (wI g oc_reach 0 12 orf), (wI g oc_ringBits 0 12 FX)] H ∧ va_D A [(wO3 oc n sv oc_plan ow ol oc_reach oc_ringBits x_90000 x_90002 ose), (wO2 n n_nodes n_kind n_pay n_name n_ways n_held n_targets n_weights), (wI g n_kind 0 12 n_fkind), (wI g oc_reach 0 12 orf), (wI g oc_ringBits 0 12 FX)] := ⟨_, hP, hD⟩
            have hP : va_P D vwCl [(wO3 oc n sv oc_plan ow ol oc_reach oc_ringBits x_90000 x_90002 ose), (wO2 n n_nodes n_kind n_pay n_name n_ways n_held n_targets n_weights), (wI g n_kind 0 12 n_fkind), (wI g oc_reach 0 12 orf), (wI g oc_ringBits 0 12 f_90021)] H := hP
            have hD : va_D A [(wO3 oc n sv oc_plan ow ol oc_reach oc_ringBits x_90000 x_90002 ose), (wO2 n n_nodes n_kind n_pay n_name n_ways n_held n_targets n_weights), (wI g n_kind 0 12 n_fkind), (wI g oc_reach 0 12 orf), (wI g oc_ringBits 0 12 f_90021)] := hD
            refine lv_aload_n hx hb dX3_findRings_57 rfl (lv_at hl 1 rfl) ?_
            refine lv_dup hx hb dX3_findRings_58 rfl ?_
            refine va_get (D := D) (ci := 3) (v := .int x_90002) (C := RX3) (T := TX3) (N := 10) hx hb hts inlX3 hown hK hP 0 rfl rfl 8 (by decide) (hts (Cond.fieldLink RX3 90 "ChanceRings$Outcome" "ringNodes" "I") qw_627) (fun _ h9 => h9) rfl dX3_findRings_59 ?_
            refine lv_aload_n hx hb dX3_findRings_62 rfl (lv_at hl 1 rfl) ?_
            refine va_get (D := D) (ci := 3) (v := .ref oc_reach) (C := RX3) (T := TX3) (N := 10) hx hb hts inlX3 hown hK hP 0 rfl rfl 5 (by decide) (hts (Cond.fieldLink RX3 25 "ChanceRings$Outcome" "reach" "[I") qw_621) (fun _ h9 => h9) rfl dX3_findRings_63 ?_
            refine lv_iload_n hx hb dX3_findRings_66 rfl (lv_at hl 0 rfl) ?_
            refine va_iald hx hb hK hP 3 0 rfl rfl (tr_in h_90006 (by decide) (by decide)) dX3_findRings_67 ?_
            refine tz_i (y := v_90020) v_90020_e.symm ?_
            refine lv_ior hx hb dX3_findRings_68 ?_
            refine lv_topi (fun v_90022 v_90022_e => ?_)
            refine va_put (D := D) (ci := 3) (v := .int v_90022) (ty := .int) (C := RX3) (T := TX3) (N := 10) hx hb hts inlX3 tyX3 tyX3_ok nmX3 hown hK hP hD hS 0 rfl rfl 8 (by decide) (hts (Cond.fieldLink RX3 90 "ChanceRings$Outcome" "ringNodes" "I") qw_627) (fun _ h9 => h9) rfl (by decide +kernel) rfl rfl (Nat.le_of_ble_eq_true rfl) dX3_findRings_69 (fun H locs hP hD hS => ?_)
            have hP : va_P D vwCl [(wO3 oc n sv oc_plan ow ol oc_reach oc_ringBits x_90000 v_90022 ose), (wO2 n n_nodes n_kind n_pay n_name n_ways n_held n_targets n_weights), (wI g n_kind 0 12 n_fkind), (wI g oc_reach 0 12 orf), (wI g oc_ringBits 0 12 f_90021)] H := hP
            have hD : va_D A [(wO3 oc n sv oc_plan ow ol oc_reach oc_ringBits x_90000 v_90022 ose), (wO2 n n_nodes n_kind n_pay n_name n_ways n_held n_targets n_weights), (wI g n_kind 0 12 n_fkind), (wI g oc_reach 0 12 orf), (wI g oc_ringBits 0 12 f_90021)] := hD
            refine lv_aload_n hx hb dX3_findRings_72 rfl (lv_at hl 1 rfl) ?_
            refine lv_dup hx hb dX3_findRings_73 rfl ?_
            refine va_get (D := D) (ci := 3) (v := .int x_90000) (C := RX3) (T := TX3) (N := 10) hx hb hts inlX3 hown hK hP 0 rfl rfl 7 (by decide) (hts (Cond.fieldLink RX3 87 "ChanceRings$Outcome" "ringCount" "I") qw_628) (fun _ h9 => h9) rfl dX3_findRings_74 ?_
            refine lv_iconst (v := 1) hx hb dX3_findRings_77 (by decide) ?_
            refine lv_iadd hx hb dX3_findRings_78 ?_
            refine lv_topi (fun v_90023 v_90023_e => ?_)
            have h_v_90023 : 1 ≤ (v_90023 : Int32).toInt ∧ (v_90023 : Int32).toInt ≤ 12 := by rw [v_90023_e]; exact tr_add h_90009 (⟨by decide, by decide⟩ : 1 ≤ (1 : Int32).toInt ∧ (1 : Int32).toInt ≤ 1) (by decide) (by decide) (by decide) (by decide)
            have q_v_90023 : v_90023.toInt = x_90000.toInt + 1 := by rw [v_90023_e]; exact tr_addE h_90009 (⟨by decide, by decide⟩ : 1 ≤ (1 : Int32).toInt ∧ (1 : Int32).toInt ≤ 1) (by decide) (by decide)
            refine va_put (D := D) (ci := 3) (v := .int v_90023) (ty := .int) (C := RX3) (T := TX3) (N := 10) hx hb hts inlX3 tyX3 tyX3_ok nmX3 hown hK hP hD hS 0 rfl rfl 7 (by decide) (hts (Cond.fieldLink RX3 87 "ChanceRings$Outcome" "ringCount" "I") qw_628) (fun _ h9 => h9) rfl (by decide +kernel) rfl rfl (Nat.le_of_ble_eq_true rfl) dX3_findRings_79 (fun H locs hP hD hS => ?_)
            have hP : va_P D vwCl [(wO3 oc n sv oc_plan ow ol oc_reach oc_ringBits v_90023 v_90022 ose), (wO2 n n_nodes n_kind n_pay n_name n_ways n_held n_targets n_weights), (wI g n_kind 0 12 n_fkind), (wI g oc_reach 0 12 orf), (wI g oc_ringBits 0 12 f_90021)] H := hP
            have hD : va_D A [(wO3 oc n sv oc_plan ow ol oc_reach oc_ringBits v_90023 v_90022 ose), (wO2 n n_nodes n_kind n_pay n_name n_ways n_held n_targets n_weights), (wI g n_kind 0 12 n_fkind), (wI g oc_reach 0 12 orf), (wI g oc_ringBits 0 12 f_90021)] := hD
            obtain ⟨v_90024, v_90024_e⟩ : ∃ y : Int32, y = x_90001 + Int32.ofInt 1 := ⟨_, rfl⟩
            have h_v_90024 : 1 ≤ (v_90024 : Int32).toInt ∧ (v_90024 : Int32).toInt ≤ 12 := by rw [v_90024_e]; exact tr_add h_90006 (⟨by decide, by decide⟩ : 1 ≤ (Int32.ofInt 1 : Int32).toInt ∧ (Int32.ofInt 1 : Int32).toInt ≤ 1) (by decide) (by decide) (by decide) (by decide)
            have q_v_90024 : v_90024.toInt = x_90001.toInt + 1 := by rw [v_90024_e]; exact tr_addE h_90006 (⟨by decide, by decide⟩ : 1 ≤ (Int32.ofInt 1 : Int32).toInt ∧ (Int32.ofInt 1 : Int32).toInt ≤ 1) (by decide) (by decide)
            refine lv_iinc (v := v_90024) (lv' := [(1, .int v_90024), (0, .ref oc)]) hx hb dX3_findRings_82 hl (k := 0) rfl v_90024_e.symm (by decide) rfl (fun ls hl => ?_)
            refine lv_goto (tgt := 12) hx hb dX3_findRings_85 (by decide) ?_
            exact ih_90004 v_90023 v_90024 v_90022 f_90021 H _ ls (tr_w h_v_90023 (by decide) (by decide)) (tr_w h_v_90024 (by decide) (by decide)) (by (first | (clear h_orc h_ose h_90012 hw_90015 c_90016_i h_90018; omega) | omega)) (by (first | (clear h_orc h_ose h_90012 hw_90015 c_90016_i h_90018; omega) | omega)) (hP.sub [0, 1, 2, 3, 4] rfl) (hD.sub [0, 1, 2, 3, 4] (by decide) rfl) hS (lv_sub hl [0, 1] rfl)
  exact lp_90004 13 0 0 0 obf H _ ls (⟨by decide, by decide⟩ : 0 ≤ (0 : Int32).toInt ∧ (0 : Int32).toInt ≤ 12) (⟨by decide, by decide⟩ : 0 ≤ (0 : Int32).toInt ∧ (0 : Int32).toInt ≤ 12) (by decide) (by decide) (hP.sub [0, 1, 2, 3, 4] rfl) (hD.sub [0, 1, 2, 3, 4] (by decide) rfl) hS (lv_sub hl [0, 1] rfl)
set_option maxHeartbeats 4000000 in
set_option maxRecDepth 100000 in
theorem c_X3_worthless (l : Launch) (D : va_G) (g : Nat → ClassId) (oc : Nat) (n : Nat) (sv : Nat) (oc_plan : Nat) (ow : Nat) (ol : Nat) (oc_reach : Nat) (oc_ringBits : Nat) (orc : Int32) (orn : Int32) (ose : Int32) (n_nodes : Int32) (n_kind : Nat) (n_pay : Nat) (n_name : Nat) (n_ways : Nat) (n_held : Nat) (n_targets : Nat) (n_weights : Nat) (ow_part : Nat) (oww : Int64) (owp : Nat → Int64) (h_orc : 0 ≤ (orc : Int32).toInt ∧ (orc : Int32).toInt ≤ 12) (h_ose : 0 ≤ (ose : Int32).toInt ∧ (ose : Int32).toInt ≤ 1) (h_n_nodes : 0 ≤ (n_nodes : Int32).toInt ∧ (n_nodes : Int32).toInt ≤ 12) : Met l yX3_worthless (.code yX3_worthless cX3_worthless 3 (some .int) :: wsL_law) ({ frames := 0, cells := 0, slots := 0, locals := 0 }) (va_Pc [.ref oc] (fun U => va_P D vwCl [(wO3 oc n sv oc_plan ow ol oc_reach oc_ringBits orc orn ose), (wO2 n n_nodes n_kind n_pay n_name n_ways n_held n_targets n_weights), (wO10 ow ow_part oww), (wJ g ow_part 1 12 owp)] U.heap ∧ va_K D vwCl (TY g) U)) (vp_Si (fun r => True)) 0 0 (fun _ => False) := by
  refine Met.ofW (cc := cX3_worthless) (maxL := 3) (ret := (some .int)) (by decide) rfl ?_
  intro p e s m args below meth c s₁ B hml hv
  obtain ⟨ha, hP, hK⟩ := hv
  have hx := B.exec
  have hb := B.bytes
  have hr := B.returns
  have hts0 := atoms_spec (ws := (.code yX3_worthless cX3_worthless 3 (some .int) :: wsL_law)) B.pre
  have hts : ∀ w ∈ wsL_law, w.before args s = true := fun w h => hts0 w (List.mem_cons_of_mem _ h)
  have hown : s.vm.findClass RX3 = some m.cls := findClass_of_methodNamed B.named
  have hlocks := B.notSynchronized
  have hP : va_P D vwCl [(wO3 oc n sv oc_plan ow ol oc_reach oc_ringBits orc orn ose), (wO2 n n_nodes n_kind n_pay n_name n_ways n_held n_targets n_weights), (wO10 ow ow_part oww), (wJ g ow_part 1 12 owp)] s.heap := hP
  refine W.eq (g2 := entryFrame m ([.ref oc] : List Value).toArray 3) (by rw [ha]) ?_
  have hl := lv_entry ([.ref oc]) (n := 3) (Nat.le_of_ble_eq_true rfl)
  rw [lg_entry_eq]
  generalize (lg_sl ([.ref oc]) ++ List.replicate (3 - (lg_sl ([.ref oc])).length) Slot.unset).toArray = ls at hl ⊢
  have hl : lv_has ls 3 [(0, .ref oc)] := hl
  refine lv_iconst (v := 0) hx hb dX3_worthless_0 (by decide) ?_
  refine lv_istore_n (lv' := [(1, .int 0), (0, .ref oc)]) hx hb dX3_worthless_1 rfl hl (by decide) rfl (fun ls hl => ?_)
  refine lv_iconst (v := 0) hx hb dX3_worthless_2 (by decide) ?_
  refine lv_istore_n (lv' := [(2, .int 0), (1, .int 0), (0, .ref oc)]) hx hb dX3_worthless_3 rfl hl (by decide) rfl (fun ls hl => ?_)
  have lp_90133 : ∀ (n_90133 : Nat) (x_90131 : Int32) (x_90132 : Int32) (ls : Array Slot), (0 ≤ (x_90131 : Int32).toInt ∧ (x_90131 : Int32).toInt ≤ 12) → (12 - x_90131.toInt < (n_90133 : Int)) → lv_has ls 3 [(2, .int x_90131), (1, .int x_90132), (0, .ref oc)] → W p l e (headSpec (.code yX3_worthless cX3_worthless 3 (some .int) :: wsL_law) ({ frames := 0, cells := 0, slots := 0, locals := 0 })).room s m args below meth c s.heap [] 0 0 (MQ below (vp_Si (fun r => True)) args s 0 0 (fun _ => False)) (F0 m 4 ls []) := by
    intro n_90133
    induction n_90133 with
    | zero =>
      intro x_90131 x_90132 ls h_x_90131 hm_90133 hl
      exfalso; omega
    | succ n_90133 ih_90133 =>
      intro x_90131 x_90132 ls h_x_90131 hm_90133 hl
      refine lv_iload_n hx hb dX3_worthless_4 rfl (lv_at hl 0 rfl) ?_
      refine lv_aload_n hx hb dX3_worthless_5 rfl (lv_at hl 2 rfl) ?_
      refine va_get (D := D) (ci := 3) (v := .ref n) (C := RX3) (T := TX3) (N := 10) hx hb hts inlX3 hown hK hP 0 rfl rfl 0 (by decide) (hts (Cond.fieldLink RX3 31 "ChanceRings$Outcome" "net" "LChanceRings$Net;") qw_619) (fun _ h9 => h9) rfl dX3_worthless_6 ?_
      refine va_get (D := D) (ci := 2) (v := .int n_nodes) (C := RX2) (T := TX2) (N := 8) hx hb hts inlX2 hown hK hP 1 rfl rfl 0 (by decide) (hts (Cond.fieldLink RX3 63 "ChanceRings$Net" "nodes" "I") qw_620) (fun _ h9 => h9) rfl dX3_worthless_9 ?_
      refine lv_icmp_ge (tgt := 41) hx hb dX3_worthless_12 (by decide) (fun c_90134 => ?_) (fun c_90134 => ?_)
      · skip
        refine lv_iload_n hx hb dX3_worthless_41 rfl (lv_at hl 1 rfl) ?_
        exact W.iret (v := x_90132) hx hb hr (fun t ht hW => ⟨x_90132, rfl, trivial, ht⟩) (fun _ h => nomatch h) dX3_worthless_42
      · skip
        have c_90134_i := Int32.lt_iff_toInt_lt.mp (Int32.not_le.mp c_90134)
        have h_90135 : 0 ≤ (x_90131 : Int32).toInt ∧ (x_90131 : Int32).toInt ≤ 11 := nr_lt_l h_x_90131 h_n_nodes c_90134_i (by decide) (by decide)
        have h_90136 : 1 ≤ (n_nodes : Int32).toInt ∧ (n_nodes : Int32).toInt ≤ 12 := nr_lt_r h_x_90131 h_n_nodes c_90134_i (by decide) (by decide)
        refine lv_aload_n hx hb dX3_worthless_15 rfl (lv_at hl 2 rfl) ?_
        refine va_get (D := D) (ci := 3) (v := .ref ow) (C := RX3) (T := TX3) (N := 10) hx hb hts inlX3 hown hK hP 0 rfl rfl 3 (by decide) (hts (Cond.fieldLink RX3 18 "ChanceRings$Outcome" "worth" "LChanceRings$Values;") qw_635) (fun _ h9 => h9) rfl dX3_worthless_16 ?_
        refine va_get (D := D) (ci := 10) (v := .ref ow_part) (C := RX10) (T := TX10) (N := 2) hx hb hts inlX10 hown hK hP 2 rfl rfl 0 (by decide) (hts (Cond.fieldLink RX3 99 "ChanceRings$Values" "part" "[J") qw_636) (fun _ h9 => h9) rfl dX3_worthless_19 ?_
        refine lv_iload_n hx hb dX3_worthless_22 rfl (lv_at hl 0 rfl) ?_
        refine va_lald hx hb hK hP 3 1 rfl rfl (tr_in h_90135 (by decide) (by decide)) dX3_worthless_23 ?_
        refine lv_topl (fun w_90137 _ => ?_)
        refine lv_lconst (v := 0) hx hb dX3_worthless_24 (by decide) ?_
        refine W.lcmp hx hb dX3_worthless_25 ?_
        refine lv_topi (fun v_90138 v_90138_e => ?_)
        have h_v_90138 : (-1) ≤ (v_90138 : Int32).toInt ∧ (v_90138 : Int32).toInt ≤ 1 := by rw [v_90138_e]; exact tr_cmp _ _
        refine lv_if_ne (tgt := 35) hx hb dX3_worthless_26 (by decide) (fun c_90139 => ?_) (fun c_90139 => ?_)
        · skip
          have z_90140 : ¬ w_90137 = 0 := tr_cmp0 (by rw [← v_90138_e]; exact c_90139)
          obtain ⟨v_90142, v_90142_e⟩ : ∃ y : Int32, y = x_90131 + Int32.ofInt 1 := ⟨_, rfl⟩
          have h_v_90142 : 1 ≤ (v_90142 : Int32).toInt ∧ (v_90142 : Int32).toInt ≤ 12 := by rw [v_90142_e]; exact tr_add h_90135 (⟨by decide, by decide⟩ : 1 ≤ (Int32.ofInt 1 : Int32).toInt ∧ (Int32.ofInt 1 : Int32).toInt ≤ 1) (by decide) (by decide) (by decide) (by decide)
          have q_v_90142 : v_90142.toInt = x_90131.toInt + 1 := by rw [v_90142_e]; exact tr_addE h_90135 (⟨by decide, by decide⟩ : 1 ≤ (Int32.ofInt 1 : Int32).toInt ∧ (Int32.ofInt 1 : Int32).toInt ≤ 1) (by decide) (by decide)
          refine lv_iinc (v := v_90142) (lv' := [(2, .int v_90142), (1, .int x_90132), (0, .ref oc)]) hx hb dX3_worthless_35 hl (k := 0) rfl v_90142_e.symm (by decide) rfl (fun ls hl => ?_)
          refine lv_goto (tgt := 4) hx hb dX3_worthless_38 (by decide) ?_
          exact ih_90133 v_90142 x_90132 ls (tr_w h_v_90142 (by decide) (by decide)) (by (first | (clear h_orc h_ose h_v_90138 z_90140; omega) | omega)) (lv_sub hl [0, 1, 2] rfl)
        · skip
          have c_90139_i : (v_90138 : Int32).toInt = (0 : Int32).toInt := congrArg Int32.toInt c_90139
          have h_90141 : 0 ≤ (v_90138 : Int32).toInt ∧ (v_90138 : Int32).toInt ≤ 0 := nr_eq_l h_v_90138 (⟨by decide, by decide⟩ : 0 ≤ (0 : Int32).toInt ∧ (0 : Int32).toInt ≤ 0) c_90139_i (by decide) (by decide)
          refine lv_iload_n hx hb dX3_worthless_29 rfl (lv_at hl 1 rfl) ?_
          refine lv_iconst (v := 1) hx hb dX3_worthless_30 (by decide) ?_
          refine lv_iload_n hx hb dX3_worthless_31 rfl (lv_at hl 0 rfl) ?_
          refine lv_ishl hx hb dX3_worthless_32 ?_
          refine lv_topi (fun v_90143 v_90143_e => ?_)
          refine lv_ior hx hb dX3_worthless_33 ?_
          refine lv_topi (fun v_90144 v_90144_e => ?_)
          refine lv_istore_n (lv' := [(1, .int v_90144), (2, .int x_90131), (0, .ref oc)]) hx hb dX3_worthless_34 rfl hl (by decide) rfl (fun ls hl => ?_)
          obtain ⟨v_90145, v_90145_e⟩ : ∃ y : Int32, y = x_90131 + Int32.ofInt 1 := ⟨_, rfl⟩
          have h_v_90145 : 1 ≤ (v_90145 : Int32).toInt ∧ (v_90145 : Int32).toInt ≤ 12 := by rw [v_90145_e]; exact tr_add h_90135 (⟨by decide, by decide⟩ : 1 ≤ (Int32.ofInt 1 : Int32).toInt ∧ (Int32.ofInt 1 : Int32).toInt ≤ 1) (by decide) (by decide) (by decide) (by decide)
          have q_v_90145 : v_90145.toInt = x_90131.toInt + 1 := by rw [v_90145_e]; exact tr_addE h_90135 (⟨by decide, by decide⟩ : 1 ≤ (Int32.ofInt 1 : Int32).toInt ∧ (Int32.ofInt 1 : Int32).toInt ≤ 1) (by decide) (by decide)
          refine lv_iinc (v := v_90145) (lv' := [(2, .int v_90145), (1, .int v_90144), (0, .ref oc)]) hx hb dX3_worthless_35 hl (k := 1) rfl v_90145_e.symm (by decide) rfl (fun ls hl => ?_)
          refine lv_goto (tgt := 4) hx hb dX3_worthless_38 (by decide) ?_
          exact ih_90133 v_90145 v_90144 ls (tr_w h_v_90145 (by decide) (by decide)) (by (first | (clear h_orc h_ose h_v_90138 c_90139_i h_90141; omega) | omega)) (lv_sub hl [0, 1, 2] rfl)
  exact lp_90133 13 0 0 ls (⟨by decide, by decide⟩ : 0 ≤ (0 : Int32).toInt ∧ (0 : Int32).toInt ≤ 12) (by decide) (lv_sub hl [0, 1, 2] rfl)
set_option maxHeartbeats 4000000 in
set_option maxRecDepth 100000 in
theorem c_X3_countAhead (l : Launch) (D : va_G) (g : Nat → ClassId) (oc : Nat) (p0 : Int32) (n : Nat) (sv : Nat) (oc_plan : Nat) (ow : Nat) (ol : Nat) (oc_reach : Nat) (oc_ringBits : Nat) (orc : Int32) (orn : Int32) (ose : Int32) (n_nodes : Int32) (n_kind : Nat) (n_pay : Nat) (n_name : Nat) (n_ways : Nat) (n_held : Nat) (n_targets : Nat) (n_weights : Nat) (ow_part : Nat) (oww : Int64) (owp : Nat → Int64) (h_p0 : 0 ≤ (p0 : Int32).toInt ∧ (p0 : Int32).toInt ≤ 11) (h_orc : 0 ≤ (orc : Int32).toInt ∧ (orc : Int32).toInt ≤ 12) (h_ose : 0 ≤ (ose : Int32).toInt ∧ (ose : Int32).toInt ≤ 1) (h_n_nodes : 0 ≤ (n_nodes : Int32).toInt ∧ (n_nodes : Int32).toInt ≤ 12) : Met l yX3_countAhead (.code yX3_countAhead cX3_countAhead 4 (some .int) :: wsL_law) ({ frames := 0, cells := 0, slots := 0, locals := 0 }) (va_Pc [.ref oc, .int p0] (fun U => va_P D vwCl [(wO3 oc n sv oc_plan ow ol oc_reach oc_ringBits orc orn ose), (wO2 n n_nodes n_kind n_pay n_name n_ways n_held n_targets n_weights), (wO10 ow ow_part oww), (wJ g ow_part 1 12 owp)] U.heap ∧ va_K D vwCl (TY g) U)) (vp_Si (fun r => True)) 0 0 (fun _ => False) := by
  refine Met.ofW (cc := cX3_countAhead) (maxL := 4) (ret := (some .int)) (by decide) rfl ?_
  intro p e s m args below meth c s₁ B hml hv
  obtain ⟨ha, hP, hK⟩ := hv
  have hx := B.exec
  have hb := B.bytes
  have hr := B.returns
  have hts0 := atoms_spec (ws := (.code yX3_countAhead cX3_countAhead 4 (some .int) :: wsL_law)) B.pre
  have hts : ∀ w ∈ wsL_law, w.before args s = true := fun w h => hts0 w (List.mem_cons_of_mem _ h)
  have hown : s.vm.findClass RX3 = some m.cls := findClass_of_methodNamed B.named
  have hlocks := B.notSynchronized
  have hP : va_P D vwCl [(wO3 oc n sv oc_plan ow ol oc_reach oc_ringBits orc orn ose), (wO2 n n_nodes n_kind n_pay n_name n_ways n_held n_targets n_weights), (wO10 ow ow_part oww), (wJ g ow_part 1 12 owp)] s.heap := hP
  refine W.eq (g2 := entryFrame m ([.ref oc, .int p0] : List Value).toArray 4) (by rw [ha]) ?_
  have hl := lv_entry ([.ref oc, .int p0]) (n := 4) (Nat.le_of_ble_eq_true rfl)
  rw [lg_entry_eq]
  generalize (lg_sl ([.ref oc, .int p0]) ++ List.replicate (4 - (lg_sl ([.ref oc, .int p0])).length) Slot.unset).toArray = ls at hl ⊢
  have hl : lv_has ls 4 [(0, .ref oc), (1, .int p0)] := hl
  refine lv_iconst (v := 0) hx hb dX3_countAhead_0 (by decide) ?_
  refine lv_istore_n (lv' := [(2, .int 0), (0, .ref oc), (1, .int p0)]) hx hb dX3_countAhead_1 rfl hl (by decide) rfl (fun ls hl => ?_)
  refine lv_iconst (v := 0) hx hb dX3_countAhead_2 (by decide) ?_
  refine lv_istore_n (lv' := [(3, .int 0), (2, .int 0), (0, .ref oc), (1, .int p0)]) hx hb dX3_countAhead_3 rfl hl (by decide) rfl (fun ls hl => ?_)
  have lp_90715 : ∀ (n_90715 : Nat) (x_90713 : Int32) (x_90714 : Int32) (ls : Array Slot), (0 ≤ (x_90713 : Int32).toInt ∧ (x_90713 : Int32).toInt ≤ 12) → (12 - x_90713.toInt < (n_90715 : Int)) → lv_has ls 4 [(3, .int x_90713), (2, .int x_90714), (0, .ref oc), (1, .int p0)] → W p l e (headSpec (.code yX3_countAhead cX3_countAhead 4 (some .int) :: wsL_law) ({ frames := 0, cells := 0, slots := 0, locals := 0 })).room s m args below meth c s.heap [] 0 0 (MQ below (vp_Si (fun r => True)) args s 0 0 (fun _ => False)) (F0 m 4 ls []) := by
    intro n_90715
    induction n_90715 with
    | zero =>
      intro x_90713 x_90714 ls h_x_90713 hm_90715 hl
      exfalso; omega
    | succ n_90715 ih_90715 =>
      intro x_90713 x_90714 ls h_x_90713 hm_90715 hl
      refine lv_iload_n hx hb dX3_countAhead_4 rfl (lv_at hl 0 rfl) ?_
      refine lv_aload_n hx hb dX3_countAhead_5 rfl (lv_at hl 2 rfl) ?_
      refine va_get (D := D) (ci := 3) (v := .ref n) (C := RX3) (T := TX3) (N := 10) hx hb hts inlX3 hown hK hP 0 rfl rfl 0 (by decide) (hts (Cond.fieldLink RX3 31 "ChanceRings$Outcome" "net" "LChanceRings$Net;") qw_619) (fun _ h9 => h9) rfl dX3_countAhead_6 ?_
      refine va_get (D := D) (ci := 2) (v := .int n_nodes) (C := RX2) (T := TX2) (N := 8) hx hb hts inlX2 hown hK hP 1 rfl rfl 0 (by decide) (hts (Cond.fieldLink RX3 63 "ChanceRings$Net" "nodes" "I") qw_620) (fun _ h9 => h9) rfl dX3_countAhead_9 ?_
      refine lv_icmp_ge (tgt := 73) hx hb dX3_countAhead_12 (by decide) (fun c_90716 => ?_) (fun c_90716 => ?_)
      · skip
        refine lv_iload_n hx hb dX3_countAhead_73 rfl (lv_at hl 1 rfl) ?_
        exact W.iret (v := x_90714) hx hb hr (fun t ht hW => ⟨x_90714, rfl, trivial, ht⟩) (fun _ h => nomatch h) dX3_countAhead_74
      · skip
        have c_90716_i := Int32.lt_iff_toInt_lt.mp (Int32.not_le.mp c_90716)
        have h_90717 : 0 ≤ (x_90713 : Int32).toInt ∧ (x_90713 : Int32).toInt ≤ 11 := nr_lt_l h_x_90713 h_n_nodes c_90716_i (by decide) (by decide)
        have h_90718 : 1 ≤ (n_nodes : Int32).toInt ∧ (n_nodes : Int32).toInt ≤ 12 := nr_lt_r h_x_90713 h_n_nodes c_90716_i (by decide) (by decide)
        refine lv_aload_n hx hb dX3_countAhead_15 rfl (lv_at hl 2 rfl) ?_
        refine va_get (D := D) (ci := 3) (v := .ref ow) (C := RX3) (T := TX3) (N := 10) hx hb hts inlX3 hown hK hP 0 rfl rfl 3 (by decide) (hts (Cond.fieldLink RX3 18 "ChanceRings$Outcome" "worth" "LChanceRings$Values;") qw_635) (fun _ h9 => h9) rfl dX3_countAhead_16 ?_
        refine va_get (D := D) (ci := 10) (v := .ref ow_part) (C := RX10) (T := TX10) (N := 2) hx hb hts inlX10 hown hK hP 2 rfl rfl 0 (by decide) (hts (Cond.fieldLink RX3 99 "ChanceRings$Values" "part" "[J") qw_636) (fun _ h9 => h9) rfl dX3_countAhead_19 ?_
        refine lv_iload_n hx hb dX3_countAhead_22 rfl (lv_at hl 0 rfl) ?_
        refine va_lald hx hb hK hP 3 1 rfl rfl (tr_in h_90717 (by decide) (by decide)) dX3_countAhead_23 ?_
        refine lv_topl (fun w_90719 _ => ?_)
        refine lv_aload_n hx hb dX3_countAhead_24 rfl (lv_at hl 2 rfl) ?_
        refine va_get (D := D) (ci := 3) (v := .ref ow) (C := RX3) (T := TX3) (N := 10) hx hb hts inlX3 hown hK hP 0 rfl rfl 3 (by decide) (hts (Cond.fieldLink RX3 18 "ChanceRings$Outcome" "worth" "LChanceRings$Values;") qw_635) (fun _ h9 => h9) rfl dX3_countAhead_25 ?_
        refine va_get (D := D) (ci := 10) (v := .ref ow_part) (C := RX10) (T := TX10) (N := 2) hx hb hts inlX10 hown hK hP 2 rfl rfl 0 (by decide) (hts (Cond.fieldLink RX3 99 "ChanceRings$Values" "part" "[J") qw_636) (fun _ h9 => h9) rfl dX3_countAhead_28 ?_
        refine lv_iload_n hx hb dX3_countAhead_31 rfl (lv_at hl 3 rfl) ?_
        refine va_lald hx hb hK hP 3 1 rfl rfl (tr_in h_p0 (by decide) (by decide)) dX3_countAhead_32 ?_
        refine lv_topl (fun w_90720 _ => ?_)
        refine W.lcmp hx hb dX3_countAhead_33 ?_
        refine lv_topi (fun v_90721 v_90721_e => ?_)
        have h_v_90721 : (-1) ≤ (v_90721 : Int32).toInt ∧ (v_90721 : Int32).toInt ≤ 1 := by rw [v_90721_e]; exact tr_cmp _ _
        refine lv_if_gt (tgt := 64) hx hb dX3_countAhead_34 (by decide) (fun c_90722 => ?_) (fun c_90722 => ?_)
        · skip
          have c_90722_i := Int32.lt_iff_toInt_lt.mp c_90722
          have h_90723 : 1 ≤ (v_90721 : Int32).toInt ∧ (v_90721 : Int32).toInt ≤ 1 := nr_lt_r (⟨by decide, by decide⟩ : 0 ≤ (0 : Int32).toInt ∧ (0 : Int32).toInt ≤ 0) h_v_90721 c_90722_i (by decide) (by decide)
          obtain ⟨v_90725, v_90725_e⟩ : ∃ y : Int32, y = x_90714 + Int32.ofInt 1 := ⟨_, rfl⟩
          refine lv_iinc (v := v_90725) (lv' := [(2, .int v_90725), (3, .int x_90713), (0, .ref oc), (1, .int p0)]) hx hb dX3_countAhead_64 hl (k := 1) rfl v_90725_e.symm (by decide) rfl (fun ls hl => ?_)
          obtain ⟨v_90726, v_90726_e⟩ : ∃ y : Int32, y = x_90713 + Int32.ofInt 1 := ⟨_, rfl⟩
          have h_v_90726 : 1 ≤ (v_90726 : Int32).toInt ∧ (v_90726 : Int32).toInt ≤ 12 := by rw [v_90726_e]; exact tr_add h_90717 (⟨by decide, by decide⟩ : 1 ≤ (Int32.ofInt 1 : Int32).toInt ∧ (Int32.ofInt 1 : Int32).toInt ≤ 1) (by decide) (by decide) (by decide) (by decide)
          have q_v_90726 : v_90726.toInt = x_90713.toInt + 1 := by rw [v_90726_e]; exact tr_addE h_90717 (⟨by decide, by decide⟩ : 1 ≤ (Int32.ofInt 1 : Int32).toInt ∧ (Int32.ofInt 1 : Int32).toInt ≤ 1) (by decide) (by decide)
          refine lv_iinc (v := v_90726) (lv' := [(3, .int v_90726), (2, .int v_90725), (0, .ref oc), (1, .int p0)]) hx hb dX3_countAhead_67 hl (k := 1) rfl v_90726_e.symm (by decide) rfl (fun ls hl => ?_)
          refine lv_goto (tgt := 4) hx hb dX3_countAhead_70 (by decide) ?_
          exact ih_90715 v_90726 v_90725 ls (tr_w h_v_90726 (by decide) (by decide)) (by (first | (clear h_p0 h_orc h_ose h_v_90721 c_90722_i h_90723; omega) | omega)) (lv_sub hl [0, 1, 2, 3] rfl)
        · skip
          have c_90722_i := Int32.le_iff_toInt_le.mp (Int32.not_lt.mp c_90722)
          have h_90724 : (-1) ≤ (v_90721 : Int32).toInt ∧ (v_90721 : Int32).toInt ≤ 0 := nr_le_l h_v_90721 (⟨by decide, by decide⟩ : 0 ≤ (0 : Int32).toInt ∧ (0 : Int32).toInt ≤ 0) c_90722_i (by decide) (by decide)
          refine lv_aload_n hx hb dX3_countAhead_37 rfl (lv_at hl 2 rfl) ?_
          refine va_get (D := D) (ci := 3) (v := .ref ow) (C := RX3) (T := TX3) (N := 10) hx hb hts inlX3 hown hK hP 0 rfl rfl 3 (by decide) (hts (Cond.fieldLink RX3 18 "ChanceRings$Outcome" "worth" "LChanceRings$Values;") qw_635) (fun _ h9 => h9) rfl dX3_countAhead_38 ?_
          refine va_get (D := D) (ci := 10) (v := .ref ow_part) (C := RX10) (T := TX10) (N := 2) hx hb hts inlX10 hown hK hP 2 rfl rfl 0 (by decide) (hts (Cond.fieldLink RX3 99 "ChanceRings$Values" "part" "[J") qw_636) (fun _ h9 => h9) rfl dX3_countAhead_41 ?_
          refine lv_iload_n hx hb dX3_countAhead_44 rfl (lv_at hl 0 rfl) ?_
          refine va_lald hx hb hK hP 3 1 rfl rfl (tr_in h_90717 (by decide) (by decide)) dX3_countAhead_45 ?_
          refine lv_topl (fun w_90727 _ => ?_)
          refine lv_aload_n hx hb dX3_countAhead_46 rfl (lv_at hl 2 rfl) ?_
          refine va_get (D := D) (ci := 3) (v := .ref ow) (C := RX3) (T := TX3) (N := 10) hx hb hts inlX3 hown hK hP 0 rfl rfl 3 (by decide) (hts (Cond.fieldLink RX3 18 "ChanceRings$Outcome" "worth" "LChanceRings$Values;") qw_635) (fun _ h9 => h9) rfl dX3_countAhead_47 ?_
          refine va_get (D := D) (ci := 10) (v := .ref ow_part) (C := RX10) (T := TX10) (N := 2) hx hb hts inlX10 hown hK hP 2 rfl rfl 0 (by decide) (hts (Cond.fieldLink RX3 99 "ChanceRings$Values" "part" "[J") qw_636) (fun _ h9 => h9) rfl dX3_countAhead_50 ?_
          refine lv_iload_n hx hb dX3_countAhead_53 rfl (lv_at hl 3 rfl) ?_
          refine va_lald hx hb hK hP 3 1 rfl rfl (tr_in h_p0 (by decide) (by decide)) dX3_countAhead_54 ?_
          refine lv_topl (fun w_90728 _ => ?_)
          refine W.lcmp hx hb dX3_countAhead_55 ?_
          refine lv_topi (fun v_90729 v_90729_e => ?_)
          have h_v_90729 : (-1) ≤ (v_90729 : Int32).toInt ∧ (v_90729 : Int32).toInt ≤ 1 := by rw [v_90729_e]; exact tr_cmp _ _
          refine lv_if_ne (tgt := 67) hx hb dX3_countAhead_56 (by decide) (fun c_90730 => ?_) (fun c_90730 => ?_)
          · skip
            obtain ⟨v_90732, v_90732_e⟩ : ∃ y : Int32, y = x_90713 + Int32.ofInt 1 := ⟨_, rfl⟩
            have h_v_90732 : 1 ≤ (v_90732 : Int32).toInt ∧ (v_90732 : Int32).toInt ≤ 12 := by rw [v_90732_e]; exact tr_add h_90717 (⟨by decide, by decide⟩ : 1 ≤ (Int32.ofInt 1 : Int32).toInt ∧ (Int32.ofInt 1 : Int32).toInt ≤ 1) (by decide) (by decide) (by decide) (by decide)
            have q_v_90732 : v_90732.toInt = x_90713.toInt + 1 := by rw [v_90732_e]; exact tr_addE h_90717 (⟨by decide, by decide⟩ : 1 ≤ (Int32.ofInt 1 : Int32).toInt ∧ (Int32.ofInt 1 : Int32).toInt ≤ 1) (by decide) (by decide)
            refine lv_iinc (v := v_90732) (lv' := [(3, .int v_90732), (2, .int x_90714), (0, .ref oc), (1, .int p0)]) hx hb dX3_countAhead_67 hl (k := 0) rfl v_90732_e.symm (by decide) rfl (fun ls hl => ?_)
            refine lv_goto (tgt := 4) hx hb dX3_countAhead_70 (by decide) ?_
            exact ih_90715 v_90732 x_90714 ls (tr_w h_v_90732 (by decide) (by decide)) (by (first | (clear h_p0 h_orc h_ose h_v_90721 c_90722_i h_90724 h_v_90729; omega) | omega)) (lv_sub hl [0, 1, 2, 3] rfl)
          · skip
            have c_90730_i : (v_90729 : Int32).toInt = (0 : Int32).toInt := congrArg Int32.toInt c_90730
            have h_90731 : 0 ≤ (v_90729 : Int32).toInt ∧ (v_90729 : Int32).toInt ≤ 0 := nr_eq_l h_v_90729 (⟨by decide, by decide⟩ : 0 ≤ (0 : Int32).toInt ∧ (0 : Int32).toInt ≤ 0) c_90730_i (by decide) (by decide)
            refine lv_iload_n hx hb dX3_countAhead_59 rfl (lv_at hl 0 rfl) ?_
            refine lv_iload_n hx hb dX3_countAhead_60 rfl (lv_at hl 3 rfl) ?_
            refine lv_icmp_ge (tgt := 67) hx hb dX3_countAhead_61 (by decide) (fun c_90733 => ?_) (fun c_90733 => ?_)
            · skip
              obtain ⟨v_90736, v_90736_e⟩ : ∃ y : Int32, y = x_90713 + Int32.ofInt 1 := ⟨_, rfl⟩
              have h_v_90736 : 1 ≤ (v_90736 : Int32).toInt ∧ (v_90736 : Int32).toInt ≤ 12 := by rw [v_90736_e]; exact tr_add h_90717 (⟨by decide, by decide⟩ : 1 ≤ (Int32.ofInt 1 : Int32).toInt ∧ (Int32.ofInt 1 : Int32).toInt ≤ 1) (by decide) (by decide) (by decide) (by decide)
              have q_v_90736 : v_90736.toInt = x_90713.toInt + 1 := by rw [v_90736_e]; exact tr_addE h_90717 (⟨by decide, by decide⟩ : 1 ≤ (Int32.ofInt 1 : Int32).toInt ∧ (Int32.ofInt 1 : Int32).toInt ≤ 1) (by decide) (by decide)
              refine lv_iinc (v := v_90736) (lv' := [(3, .int v_90736), (2, .int x_90714), (0, .ref oc), (1, .int p0)]) hx hb dX3_countAhead_67 hl (k := 0) rfl v_90736_e.symm (by decide) rfl (fun ls hl => ?_)
              refine lv_goto (tgt := 4) hx hb dX3_countAhead_70 (by decide) ?_
              exact ih_90715 v_90736 x_90714 ls (tr_w h_v_90736 (by decide) (by decide)) (by (first | (clear h_p0 h_orc h_ose h_v_90721 c_90722_i h_90724 h_v_90729 c_90730_i h_90731; omega) | omega)) (lv_sub hl [0, 1, 2, 3] rfl)
            · skip
              have c_90733_i := Int32.lt_iff_toInt_lt.mp (Int32.not_le.mp c_90733)
              have h_90734 : 0 ≤ (x_90713 : Int32).toInt ∧ (x_90713 : Int32).toInt ≤ 10 := nr_lt_l h_90717 h_p0 c_90733_i (by decide) (by decide)
              have h_90735 : 1 ≤ (p0 : Int32).toInt ∧ (p0 : Int32).toInt ≤ 11 := nr_lt_r h_90717 h_p0 c_90733_i (by decide) (by decide)
              obtain ⟨v_90737, v_90737_e⟩ : ∃ y : Int32, y = x_90714 + Int32.ofInt 1 := ⟨_, rfl⟩
              refine lv_iinc (v := v_90737) (lv' := [(2, .int v_90737), (3, .int x_90713), (0, .ref oc), (1, .int p0)]) hx hb dX3_countAhead_64 hl (k := 1) rfl v_90737_e.symm (by decide) rfl (fun ls hl => ?_)
              obtain ⟨v_90738, v_90738_e⟩ : ∃ y : Int32, y = x_90713 + Int32.ofInt 1 := ⟨_, rfl⟩
              have h_v_90738 : 1 ≤ (v_90738 : Int32).toInt ∧ (v_90738 : Int32).toInt ≤ 11 := by rw [v_90738_e]; exact tr_add h_90734 (⟨by decide, by decide⟩ : 1 ≤ (Int32.ofInt 1 : Int32).toInt ∧ (Int32.ofInt 1 : Int32).toInt ≤ 1) (by decide) (by decide) (by decide) (by decide)
              have q_v_90738 : v_90738.toInt = x_90713.toInt + 1 := by rw [v_90738_e]; exact tr_addE h_90734 (⟨by decide, by decide⟩ : 1 ≤ (Int32.ofInt 1 : Int32).toInt ∧ (Int32.ofInt 1 : Int32).toInt ≤ 1) (by decide) (by decide)
              refine lv_iinc (v := v_90738) (lv' := [(3, .int v_90738), (2, .int v_90737), (0, .ref oc), (1, .int p0)]) hx hb dX3_countAhead_67 hl (k := 1) rfl v_90738_e.symm (by decide) rfl (fun ls hl => ?_)
              refine lv_goto (tgt := 4) hx hb dX3_countAhead_70 (by decide) ?_
              exact ih_90715 v_90738 v_90737 ls (tr_w h_v_90738 (by decide) (by decide)) (by (first | (clear h_orc h_ose h_v_90721 c_90722_i h_90724 h_v_90729 c_90730_i h_90731; omega) | omega)) (lv_sub hl [0, 1, 2, 3] rfl)
  exact lp_90715 13 0 0 ls (⟨by decide, by decide⟩ : 0 ≤ (0 : Int32).toInt ∧ (0 : Int32).toInt ≤ 12) (by decide) (lv_sub hl [0, 1, 2, 3] rfl)
set_option maxHeartbeats 4000000 in
set_option maxRecDepth 100000 in
theorem c_X3_ranked (l : Launch) (D : va_G) (g : Nat → ClassId) (oc : Nat) (p0 : Int32) (n : Nat) (sv : Nat) (oc_plan : Nat) (ow : Nat) (ol : Nat) (oc_reach : Nat) (oc_ringBits : Nat) (orc : Int32) (orn : Int32) (ose : Int32) (n_nodes : Int32) (n_kind : Nat) (n_pay : Nat) (n_name : Nat) (n_ways : Nat) (n_held : Nat) (n_targets : Nat) (n_weights : Nat) (ow_part : Nat) (oww : Int64) (owp : Nat → Int64) (h_orc : 0 ≤ (orc : Int32).toInt ∧ (orc : Int32).toInt ≤ 12) (h_ose : 0 ≤ (ose : Int32).toInt ∧ (ose : Int32).toInt ≤ 1) (h_n_nodes : 0 ≤ (n_nodes : Int32).toInt ∧ (n_nodes : Int32).toInt ≤ 12) : Met l yX3_ranked (.code yX3_ranked cX3_ranked 3 (some .int) :: wsL_law) ({ frames := 1, cells := 0, slots := 0, locals := 23 }) (va_Pc [.ref oc, .int p0] (fun U => va_P D vwCl [(wO3 oc n sv oc_plan ow ol oc_reach oc_ringBits orc orn ose), (wO2 n n_nodes n_kind n_pay n_name n_ways n_held n_targets n_weights), (wO10 ow ow_part oww), (wJ g ow_part 1 12 owp)] U.heap ∧ va_K D vwCl (TY g) U)) (vp_Si (fun r => (-1) ≤ (r : Int32).toInt ∧ (r : Int32).toInt ≤ 11)) 0 0 (fun _ => False) := by
  refine Met.ofW (cc := cX3_ranked) (maxL := 3) (ret := (some .int)) (by decide) rfl ?_
  intro p e s m args below meth c s₁ B hml hv
  obtain ⟨ha, hP, hK⟩ := hv
  have hx := B.exec
  have hb := B.bytes
  have hr := B.returns
  have hts0 := atoms_spec (ws := (.code yX3_ranked cX3_ranked 3 (some .int) :: wsL_law)) B.pre
  have hts : ∀ w ∈ wsL_law, w.before args s = true := fun w h => hts0 w (List.mem_cons_of_mem _ h)
  have hown : s.vm.findClass RX3 = some m.cls := findClass_of_methodNamed B.named
  have hlocks := B.notSynchronized
  have hP : va_P D vwCl [(wO3 oc n sv oc_plan ow ol oc_reach oc_ringBits orc orn ose), (wO2 n n_nodes n_kind n_pay n_name n_ways n_held n_targets n_weights), (wO10 ow ow_part oww), (wJ g ow_part 1 12 owp)] s.heap := hP
  refine W.eq (g2 := entryFrame m ([.ref oc, .int p0] : List Value).toArray 3) (by rw [ha]) ?_
  have hl := lv_entry ([.ref oc, .int p0]) (n := 3) (Nat.le_of_ble_eq_true rfl)
  rw [lg_entry_eq]
  generalize (lg_sl ([.ref oc, .int p0]) ++ List.replicate (3 - (lg_sl ([.ref oc, .int p0])).length) Slot.unset).toArray = ls at hl ⊢
  have hl : lv_has ls 3 [(0, .ref oc), (1, .int p0)] := hl
  refine lv_iconst (v := 0) hx hb dX3_ranked_0 (by decide) ?_
  refine lv_istore_n (lv' := [(2, .int 0), (0, .ref oc), (1, .int p0)]) hx hb dX3_ranked_1 rfl hl (by decide) rfl (fun ls hl => ?_)
  have lp_90794 : ∀ (n_90794 : Nat) (x_90793 : Int32) (ls : Array Slot), (0 ≤ (x_90793 : Int32).toInt ∧ (x_90793 : Int32).toInt ≤ 12) → (12 - x_90793.toInt < (n_90794 : Int)) → lv_has ls 3 [(2, .int x_90793), (0, .ref oc), (1, .int p0)] → W p l e (headSpec (.code yX3_ranked cX3_ranked 3 (some .int) :: wsL_law) ({ frames := 1, cells := 0, slots := 0, locals := 23 })).room s m args below meth c s.heap [] 0 0 (MQ below (vp_Si (fun r => (-1) ≤ (r : Int32).toInt ∧ (r : Int32).toInt ≤ 11)) args s 0 0 (fun _ => False)) (F0 m 2 ls []) := by
    intro n_90794
    induction n_90794 with
    | zero =>
      intro x_90793 ls h_x_90793 hm_90794 hl
      exfalso; omega
    | succ n_90794 ih_90794 =>
      intro x_90793 ls h_x_90793 hm_90794 hl
      refine lv_iload_n hx hb dX3_ranked_2 rfl (lv_at hl 0 rfl) ?_
      refine lv_aload_n hx hb dX3_ranked_3 rfl (lv_at hl 1 rfl) ?_
      refine va_get (D := D) (ci := 3) (v := .ref n) (C := RX3) (T := TX3) (N := 10) hx hb hts inlX3 hown hK hP 0 rfl rfl 0 (by decide) (hts (Cond.fieldLink RX3 31 "ChanceRings$Outcome" "net" "LChanceRings$Net;") qw_619) (fun _ h9 => h9) rfl dX3_ranked_4 ?_
      refine va_get (D := D) (ci := 2) (v := .int n_nodes) (C := RX2) (T := TX2) (N := 8) hx hb hts inlX2 hown hK hP 1 rfl rfl 0 (by decide) (hts (Cond.fieldLink RX3 63 "ChanceRings$Net" "nodes" "I") qw_620) (fun _ h9 => h9) rfl dX3_ranked_7 ?_
      refine lv_icmp_ge (tgt := 30) hx hb dX3_ranked_10 (by decide) (fun c_90795 => ?_) (fun c_90795 => ?_)
      · skip
        refine lv_iconst (v := (-1)) hx hb dX3_ranked_30 (by decide) ?_
        exact W.iret (v := (-1)) hx hb hr (fun t ht hW => ⟨(-1), rfl, (⟨by decide, by decide⟩ : (-1) ≤ ((-1) : Int32).toInt ∧ ((-1) : Int32).toInt ≤ 11), ht⟩) (fun _ h => nomatch h) dX3_ranked_31
      · skip
        have c_90795_i := Int32.lt_iff_toInt_lt.mp (Int32.not_le.mp c_90795)
        have h_90796 : 0 ≤ (x_90793 : Int32).toInt ∧ (x_90793 : Int32).toInt ≤ 11 := nr_lt_l h_x_90793 h_n_nodes c_90795_i (by decide) (by decide)
        have h_90797 : 1 ≤ (n_nodes : Int32).toInt ∧ (n_nodes : Int32).toInt ≤ 12 := nr_lt_r h_x_90793 h_n_nodes c_90795_i (by decide) (by decide)
        refine lv_aload_n hx hb dX3_ranked_13 rfl (lv_at hl 1 rfl) ?_
        refine lv_iload_n hx hb dX3_ranked_14 rfl (lv_at hl 0 rfl) ?_
        have hPc := hP.sub (ws' := [(wO3 oc n sv oc_plan ow ol oc_reach oc_ringBits orc orn ose), (wO2 n n_nodes n_kind n_pay n_name n_ways n_held n_targets n_weights), (wO10 ow ow_part oww), (wJ g ow_part 1 12 owp)]) [0, 1, 2, 3] rfl
        refine vp_callSi (va_Run.run (va_runV (As := [.int x_90793]) (rest := []) ⟨hx, hb, hml, hown, hts⟩ (c_X3_countAhead l D g oc x_90793 n sv oc_plan ow ol oc_reach oc_ringBits orc orn ose n_nodes n_kind n_pay n_name n_ways n_held n_targets n_weights ow_part oww owp (tr_w h_90796 (by decide) (by decide)) (tr_w h_orc (by decide) (by decide)) (tr_w h_ose (by decide) (by decide)) (tr_w h_90797 (by decide) (by decide))) (cwV 1 hts (tz_gV qw_637 qw_638 qw_639 qw_632 qw_640) rfl rfl rfl (by decide +kernel) ⟨Nat.le_of_ble_eq_true rfl, Nat.le_of_ble_eq_true rfl⟩) ⟨tz_blS, va_recv hK hPc (ci := 3) (q0 := 0) rfl rfl, tz_preS hPc hK⟩ rfl rfl hl.1 rfl (lv_room (Nat.le_of_ble_eq_true rfl)) dX3_ranked_15 ⟨Nat.le_of_ble_eq_true rfl, Nat.le_of_ble_eq_true rfl⟩)) (fun r_90798 hw => ?_)
        refine lv_iload_n hx hb dX3_ranked_18 rfl (lv_at hl 2 rfl) ?_
        refine lv_icmp_ne (tgt := 24) hx hb dX3_ranked_19 (by decide) (fun c_90799 => ?_) (fun c_90799 => ?_)
        · skip
          obtain ⟨v_90800, v_90800_e⟩ : ∃ y : Int32, y = x_90793 + Int32.ofInt 1 := ⟨_, rfl⟩
          have h_v_90800 : 1 ≤ (v_90800 : Int32).toInt ∧ (v_90800 : Int32).toInt ≤ 12 := by rw [v_90800_e]; exact tr_add h_90796 (⟨by decide, by decide⟩ : 1 ≤ (Int32.ofInt 1 : Int32).toInt ∧ (Int32.ofInt 1 : Int32).toInt ≤ 1) (by decide) (by decide) (by decide) (by decide)
          have q_v_90800 : v_90800.toInt = x_90793.toInt + 1 := by rw [v_90800_e]; exact tr_addE h_90796 (⟨by decide, by decide⟩ : 1 ≤ (Int32.ofInt 1 : Int32).toInt ∧ (Int32.ofInt 1 : Int32).toInt ≤ 1) (by decide) (by decide)
          refine lv_iinc (v := v_90800) (lv' := [(2, .int v_90800), (0, .ref oc), (1, .int p0)]) hx hb dX3_ranked_24 hl (k := 0) rfl v_90800_e.symm (by decide) rfl (fun ls hl => ?_)
          refine lv_goto (tgt := 2) hx hb dX3_ranked_27 (by decide) ?_
          exact ih_90794 v_90800 ls (tr_w h_v_90800 (by decide) (by decide)) (by omega) (lv_sub hl [0, 1, 2] rfl)
        · skip
          refine lv_iload_n hx hb dX3_ranked_22 rfl (lv_at hl 0 rfl) ?_
          exact W.iret (v := x_90793) hx hb hr (fun t ht hW => ⟨x_90793, rfl, (tr_w h_90796 (by decide) (by decide)), ht⟩) (fun _ h => nomatch h) dX3_ranked_23
  exact lp_90794 13 0 ls (⟨by decide, by decide⟩ : 0 ≤ (0 : Int32).toInt ∧ (0 : Int32).toInt ≤ 12) (by decide) (lv_sub hl [0, 1, 2] rfl)
set_option maxHeartbeats 4000000 in
set_option maxRecDepth 100000 in
theorem c_X3_drawnWay (l : Launch) (D : va_G) (g : Nat → ClassId) (oc : Nat) (p0 : Int32) (p1 : Int32) (n : Nat) (sv : Nat) (oc_plan : Nat) (ow : Nat) (ol : Nat) (oc_reach : Nat) (oc_ringBits : Nat) (orc : Int32) (orn : Int32) (ose : Int32) (n_nodes : Int32) (n_kind : Nat) (n_pay : Nat) (n_name : Nat) (n_ways : Nat) (n_held : Nat) (n_targets : Nat) (n_weights : Nat) (n_fkind : Nat → Int32) (n_fways : Nat → Int32) (n_fweights : Nat → Int32) (h_p0 : 0 ≤ (p0 : Int32).toInt ∧ (p0 : Int32).toInt ≤ 11) (h_orc : 0 ≤ (orc : Int32).toInt ∧ (orc : Int32).toInt ≤ 12) (h_ose : 0 ≤ (ose : Int32).toInt ∧ (ose : Int32).toInt ≤ 1) (h_n_nodes : 0 ≤ (n_nodes : Int32).toInt ∧ (n_nodes : Int32).toInt ≤ 12) (h_n_fkind : ∀ j : Nat, 0 ≤ (n_fkind j).toInt ∧ (n_fkind j).toInt ≤ 3) (h_n_fways : ∀ j : Nat, 0 ≤ (n_fways j).toInt ∧ (n_fways j).toInt ≤ 3) : Met l yX3_drawnWay (.code yX3_drawnWay cX3_drawnWay 7 (some .int) :: wsL_law) ({ frames := 1, cells := 0, slots := 0, locals := 23 }) (va_Pc [.ref oc, .int p0, .int p1] (fun U => va_P D vwCl [(wO3 oc n sv oc_plan ow ol oc_reach oc_ringBits orc orn ose), (wO2 n n_nodes n_kind n_pay n_name n_ways n_held n_targets n_weights), (wI g n_kind 0 12 n_fkind), (wI g n_ways 0 12 n_fways), (wI g n_weights 0 36 n_fweights)] U.heap ∧ va_K D vwCl (TY g) U)) (vp_Si (fun r => 0 ≤ (r : Int32).toInt ∧ (r : Int32).toInt ≤ 2)) 0 0 (fun _ => False) := by
  refine Met.ofW (cc := cX3_drawnWay) (maxL := 7) (ret := (some .int)) (by decide) rfl ?_
  intro p e s m args below meth c s₁ B hml hv
  obtain ⟨ha, hP, hK⟩ := hv
  have hx := B.exec
  have hb := B.bytes
  have hr := B.returns
  have hts0 := atoms_spec (ws := (.code yX3_drawnWay cX3_drawnWay 7 (some .int) :: wsL_law)) B.pre
  have hts : ∀ w ∈ wsL_law, w.before args s = true := fun w h => hts0 w (List.mem_cons_of_mem _ h)
  have hown : s.vm.findClass RX3 = some m.cls := findClass_of_methodNamed B.named
  have hlocks := B.notSynchronized
  have hP : va_P D vwCl [(wO3 oc n sv oc_plan ow ol oc_reach oc_ringBits orc orn ose), (wO2 n n_nodes n_kind n_pay n_name n_ways n_held n_targets n_weights), (wI g n_kind 0 12 n_fkind), (wI g n_ways 0 12 n_fways), (wI g n_weights 0 36 n_fweights)] s.heap := hP
  refine W.eq (g2 := entryFrame m ([.ref oc, .int p0, .int p1] : List Value).toArray 7) (by rw [ha]) ?_
  have hl := lv_entry ([.ref oc, .int p0, .int p1]) (n := 7) (Nat.le_of_ble_eq_true rfl)
  rw [lg_entry_eq]
  generalize (lg_sl ([.ref oc, .int p0, .int p1]) ++ List.replicate (7 - (lg_sl ([.ref oc, .int p0, .int p1])).length) Slot.unset).toArray = ls at hl ⊢
  have hl : lv_has ls 7 [(0, .ref oc), (1, .int p0), (2, .int p1)] := hl
  refine lv_aload_n hx hb dX3_drawnWay_0 rfl (lv_at hl 0 rfl) ?_
  refine va_get (D := D) (ci := 3) (v := .ref n) (C := RX3) (T := TX3) (N := 10) hx hb hts inlX3 hown hK hP 0 rfl rfl 0 (by decide) (hts (Cond.fieldLink RX3 31 "ChanceRings$Outcome" "net" "LChanceRings$Net;") qw_619) (fun _ h9 => h9) rfl dX3_drawnWay_1 ?_
  refine lv_iload_n hx hb dX3_drawnWay_4 rfl (lv_at hl 1 rfl) ?_
  have hPc := hP.sub (ws' := [(wO2 n n_nodes n_kind n_pay n_name n_ways n_held n_targets n_weights), (wI g n_kind 0 12 n_fkind), (wI g n_ways 0 12 n_fways), (wI g n_weights 0 36 n_fweights)]) [1, 2, 3, 4] rfl
  refine vp_callSi (va_Run.run (va_runV (As := [.int p0]) (rest := []) ⟨hx, hb, hml, hown, hts⟩ (c_X2_together l D g n p0 n_nodes n_kind n_pay n_name n_ways n_held n_targets n_weights n_fkind n_fways n_fweights (tr_w h_p0 (by decide) (by decide)) (tr_w h_n_nodes (by decide) (by decide)) (tr_wa h_n_fkind (by decide) (by decide)) (tr_wa h_n_fways (by decide) (by decide))) (cwV 1 hts (tz_gV qw_641 qw_425 qw_426 qw_322 qw_427) rfl rfl rfl (by decide +kernel) ⟨Nat.le_of_ble_eq_true rfl, Nat.le_of_ble_eq_true rfl⟩) ⟨tz_blS, va_recv hK hPc (ci := 2) (q0 := 0) rfl rfl, tz_preS hPc hK⟩ rfl rfl hl.1 rfl (lv_room (Nat.le_of_ble_eq_true rfl)) dX3_drawnWay_5 ⟨Nat.le_of_ble_eq_true rfl, Nat.le_of_ble_eq_true rfl⟩)) (fun r_90801 hw => ?_)
  refine lv_istore_n (lv' := [(3, .int r_90801), (0, .ref oc), (1, .int p0), (2, .int p1)]) hx hb dX3_drawnWay_8 rfl hl (by decide) rfl (fun ls hl => ?_)
  refine lv_iload_n hx hb dX3_drawnWay_9 rfl (lv_at hl 0 rfl) ?_
  refine lv_if_ne (tgt := 17) hx hb dX3_drawnWay_10 (by decide) (fun c_90802 => ?_) (fun c_90802 => ?_)
  · skip
    refine lv_iload_n hx hb dX3_drawnWay_17 rfl (lv_at hl 3 rfl) ?_
    refine lv_iload_n hx hb dX3_drawnWay_18 rfl (lv_at hl 0 rfl) ?_
    refine lv_irem hx hb dX3_drawnWay_19 c_90802 ?_
    refine lv_topi (fun v_90804 v_90804_e => ?_)
    refine lv_istore (lv' := [(4, .int v_90804), (3, .int r_90801), (0, .ref oc), (1, .int p0), (2, .int p1)]) hx hb dX3_drawnWay_20 hl (by decide) rfl (fun ls hl => ?_)
    refine lv_iconst (v := 0) hx hb dX3_drawnWay_22 (by decide) ?_
    refine lv_istore (lv' := [(5, .int 0), (4, .int v_90804), (3, .int r_90801), (0, .ref oc), (1, .int p0), (2, .int p1)]) hx hb dX3_drawnWay_23 hl (by decide) rfl (fun ls hl => ?_)
    refine lv_iconst (v := 0) hx hb dX3_drawnWay_25 (by decide) ?_
    refine lv_istore (lv' := [(6, .int 0), (5, .int 0), (4, .int v_90804), (3, .int r_90801), (0, .ref oc), (1, .int p0), (2, .int p1)]) hx hb dX3_drawnWay_26 hl (by decide) rfl (fun ls hl => ?_)
    have lp_90844 : ∀ (n_90844 : Nat) (x_90842 : Int32) (x_90843 : Int32) (ls : Array Slot), (0 ≤ (x_90842 : Int32).toInt ∧ (x_90842 : Int32).toInt ≤ 3) → (3 - x_90842.toInt < (n_90844 : Int)) → lv_has ls 7 [(6, .int x_90842), (5, .int x_90843), (4, .int v_90804), (3, .int r_90801), (0, .ref oc), (1, .int p0), (2, .int p1)] → W p l e (headSpec (.code yX3_drawnWay cX3_drawnWay 7 (some .int) :: wsL_law) ({ frames := 1, cells := 0, slots := 0, locals := 23 })).room s m args below meth c s.heap [] 0 0 (MQ below (vp_Si (fun r => 0 ≤ (r : Int32).toInt ∧ (r : Int32).toInt ≤ 2)) args s 0 0 (fun _ => False)) (F0 m 28 ls []) := by
      intro n_90844
      induction n_90844 with
      | zero =>
        intro x_90842 x_90843 ls h_x_90842 hm_90844 hl
        exfalso; omega
      | succ n_90844 ih_90844 =>
        intro x_90842 x_90843 ls h_x_90842 hm_90844 hl
        refine lv_iload hx hb dX3_drawnWay_28 (lv_at hl 0 rfl) ?_
        refine lv_aload_n hx hb dX3_drawnWay_30 rfl (lv_at hl 4 rfl) ?_
        refine va_get (D := D) (ci := 3) (v := .ref n) (C := RX3) (T := TX3) (N := 10) hx hb hts inlX3 hown hK hP 0 rfl rfl 0 (by decide) (hts (Cond.fieldLink RX3 31 "ChanceRings$Outcome" "net" "LChanceRings$Net;") qw_619) (fun _ h9 => h9) rfl dX3_drawnWay_31 ?_
        refine va_get (D := D) (ci := 2) (v := .ref n_ways) (C := RX2) (T := TX2) (N := 8) hx hb hts inlX2 hown hK hP 1 rfl rfl 4 (by decide) (hts (Cond.fieldLink RX3 118 "ChanceRings$Net" "ways" "[I") qw_642) (fun _ h9 => h9) rfl dX3_drawnWay_34 ?_
        refine lv_iload_n hx hb dX3_drawnWay_37 rfl (lv_at hl 5 rfl) ?_
        refine va_iald hx hb hK hP 3 0 rfl rfl (tr_in h_p0 (by decide) (by decide)) dX3_drawnWay_38 ?_
        refine lv_topi (fun v_90845 v_90845_e => ?_)
        have h_v_90845 : 0 ≤ (v_90845 : Int32).toInt ∧ (v_90845 : Int32).toInt ≤ 3 := by rw [v_90845_e]; exact h_n_fways _
        refine lv_icmp_ge (tgt := 73) hx hb dX3_drawnWay_39 (by decide) (fun c_90846 => ?_) (fun c_90846 => ?_)
        · skip
          refine lv_iconst (v := 0) hx hb dX3_drawnWay_73 (by decide) ?_
          exact W.iret (v := 0) hx hb hr (fun t ht hW => ⟨0, rfl, (⟨by decide, by decide⟩ : 0 ≤ (0 : Int32).toInt ∧ (0 : Int32).toInt ≤ 2), ht⟩) (fun _ h => nomatch h) dX3_drawnWay_74
        · skip
          have c_90846_i := Int32.lt_iff_toInt_lt.mp (Int32.not_le.mp c_90846)
          have h_90847 : 0 ≤ (x_90842 : Int32).toInt ∧ (x_90842 : Int32).toInt ≤ 2 := nr_lt_l h_x_90842 h_v_90845 c_90846_i (by decide) (by decide)
          have h_90848 : 1 ≤ (v_90845 : Int32).toInt ∧ (v_90845 : Int32).toInt ≤ 3 := nr_lt_r h_x_90842 h_v_90845 c_90846_i (by decide) (by decide)
          refine lv_iload hx hb dX3_drawnWay_42 (lv_at hl 1 rfl) ?_
          refine lv_aload_n hx hb dX3_drawnWay_44 rfl (lv_at hl 4 rfl) ?_
          refine va_get (D := D) (ci := 3) (v := .ref n) (C := RX3) (T := TX3) (N := 10) hx hb hts inlX3 hown hK hP 0 rfl rfl 0 (by decide) (hts (Cond.fieldLink RX3 31 "ChanceRings$Outcome" "net" "LChanceRings$Net;") qw_619) (fun _ h9 => h9) rfl dX3_drawnWay_45 ?_
          refine lv_iload_n hx hb dX3_drawnWay_48 rfl (lv_at hl 5 rfl) ?_
          refine lv_iload hx hb dX3_drawnWay_49 (lv_at hl 0 rfl) ?_
          have hPc := hP.sub (ws' := [(wO2 n n_nodes n_kind n_pay n_name n_ways n_held n_targets n_weights), (wI g n_weights 0 36 n_fweights)]) [1, 4] rfl
          refine vp_callSi (va_Run.run (va_runV (As := [.int p0, .int x_90842]) (rest := [.int x_90843]) ⟨hx, hb, hml, hown, hts⟩ (c_X2_weight l D g n p0 x_90842 n_nodes n_kind n_pay n_name n_ways n_held n_targets n_weights n_fweights (tr_w h_p0 (by decide) (by decide)) (tr_w h_90847 (by decide) (by decide)) (tr_w h_n_nodes (by decide) (by decide))) (cwV 2 hts (tz_gV qw_643 qw_590 qw_591 qw_322 qw_592) rfl rfl rfl (by decide +kernel) ⟨Nat.le_of_ble_eq_true rfl, Nat.le_of_ble_eq_true rfl⟩) ⟨tz_blS, va_recv hK hPc (ci := 2) (q0 := 0) rfl rfl, tz_preS hPc hK⟩ rfl rfl hl.1 rfl (lv_room (Nat.le_of_ble_eq_true rfl)) dX3_drawnWay_51 ⟨Nat.le_of_ble_eq_true rfl, Nat.le_of_ble_eq_true rfl⟩)) (fun r_90849 hw => ?_)
          refine lv_iadd hx hb dX3_drawnWay_54 ?_
          refine lv_topi (fun v_90850 v_90850_e => ?_)
          refine lv_istore (lv' := [(5, .int v_90850), (6, .int x_90842), (4, .int v_90804), (3, .int r_90801), (0, .ref oc), (1, .int p0), (2, .int p1)]) hx hb dX3_drawnWay_55 hl (by decide) rfl (fun ls hl => ?_)
          refine lv_iload hx hb dX3_drawnWay_57 (lv_at hl 0 rfl) ?_
          refine lv_iload hx hb dX3_drawnWay_59 (lv_at hl 2 rfl) ?_
          refine lv_icmp_le (tgt := 67) hx hb dX3_drawnWay_61 (by decide) (fun c_90851 => ?_) (fun c_90851 => ?_)
          · skip
            obtain ⟨v_90852, v_90852_e⟩ : ∃ y : Int32, y = x_90842 + Int32.ofInt 1 := ⟨_, rfl⟩
            have h_v_90852 : 1 ≤ (v_90852 : Int32).toInt ∧ (v_90852 : Int32).toInt ≤ 3 := by rw [v_90852_e]; exact tr_add h_90847 (⟨by decide, by decide⟩ : 1 ≤ (Int32.ofInt 1 : Int32).toInt ∧ (Int32.ofInt 1 : Int32).toInt ≤ 1) (by decide) (by decide) (by decide) (by decide)
            have q_v_90852 : v_90852.toInt = x_90842.toInt + 1 := by rw [v_90852_e]; exact tr_addE h_90847 (⟨by decide, by decide⟩ : 1 ≤ (Int32.ofInt 1 : Int32).toInt ∧ (Int32.ofInt 1 : Int32).toInt ≤ 1) (by decide) (by decide)
            refine lv_iinc (v := v_90852) (lv' := [(6, .int v_90852), (5, .int v_90850), (4, .int v_90804), (3, .int r_90801), (0, .ref oc), (1, .int p0), (2, .int p1)]) hx hb dX3_drawnWay_67 hl (k := 1) rfl v_90852_e.symm (by decide) rfl (fun ls hl => ?_)
            refine lv_goto (tgt := 28) hx hb dX3_drawnWay_70 (by decide) ?_
            exact ih_90844 v_90852 v_90850 ls (tr_w h_v_90852 (by decide) (by decide)) (by (first | (clear h_p0 h_orc h_ose h_n_nodes; omega) | omega)) (lv_sub hl [0, 1, 2, 3, 4, 5, 6] rfl)
          · skip
            refine lv_iload hx hb dX3_drawnWay_64 (lv_at hl 1 rfl) ?_
            exact W.iret (v := x_90842) hx hb hr (fun t ht hW => ⟨x_90842, rfl, (tr_w h_90847 (by decide) (by decide)), ht⟩) (fun _ h => nomatch h) dX3_drawnWay_66
    exact lp_90844 4 0 0 ls (⟨by decide, by decide⟩ : 0 ≤ (0 : Int32).toInt ∧ (0 : Int32).toInt ≤ 3) (by decide) (lv_sub hl [0, 1, 2, 3, 4, 5, 6] rfl)
  · skip
    have h_90803 : 0 ≤ (r_90801 : Int32).toInt ∧ (r_90801 : Int32).toInt ≤ 0 := by rw [c_90802]; exact ⟨by decide, by decide⟩
    refine lv_iconst (v := 0) hx hb dX3_drawnWay_13 (by decide) ?_
    refine lv_goto (tgt := 20) hx hb dX3_drawnWay_14 (by decide) ?_
    refine lv_istore (lv' := [(4, .int 0), (3, .int r_90801), (0, .ref oc), (1, .int p0), (2, .int p1)]) hx hb dX3_drawnWay_20 hl (by decide) rfl (fun ls hl => ?_)
    refine lv_iconst (v := 0) hx hb dX3_drawnWay_22 (by decide) ?_
    refine lv_istore (lv' := [(5, .int 0), (4, .int 0), (3, .int r_90801), (0, .ref oc), (1, .int p0), (2, .int p1)]) hx hb dX3_drawnWay_23 hl (by decide) rfl (fun ls hl => ?_)
    refine lv_iconst (v := 0) hx hb dX3_drawnWay_25 (by decide) ?_
    refine lv_istore (lv' := [(6, .int 0), (5, .int 0), (4, .int 0), (3, .int r_90801), (0, .ref oc), (1, .int p0), (2, .int p1)]) hx hb dX3_drawnWay_26 hl (by decide) rfl (fun ls hl => ?_)
    have lp_90900 : ∀ (n_90900 : Nat) (x_90898 : Int32) (x_90899 : Int32) (ls : Array Slot), (0 ≤ (x_90898 : Int32).toInt ∧ (x_90898 : Int32).toInt ≤ 3) → ((-2147483648) ≤ (x_90899 : Int32).toInt ∧ (x_90899 : Int32).toInt ≤ 0) → (3 - x_90898.toInt < (n_90900 : Int)) → lv_has ls 7 [(6, .int x_90898), (5, .int x_90899), (4, .int 0), (3, .int r_90801), (0, .ref oc), (1, .int p0), (2, .int p1)] → W p l e (headSpec (.code yX3_drawnWay cX3_drawnWay 7 (some .int) :: wsL_law) ({ frames := 1, cells := 0, slots := 0, locals := 23 })).room s m args below meth c s.heap [] 0 0 (MQ below (vp_Si (fun r => 0 ≤ (r : Int32).toInt ∧ (r : Int32).toInt ≤ 2)) args s 0 0 (fun _ => False)) (F0 m 28 ls []) := by
      intro n_90900
      induction n_90900 with
      | zero =>
        intro x_90898 x_90899 ls h_x_90898 h_x_90899 hm_90900 hl
        exfalso; omega
      | succ n_90900 ih_90900 =>
        intro x_90898 x_90899 ls h_x_90898 h_x_90899 hm_90900 hl
        refine lv_iload hx hb dX3_drawnWay_28 (lv_at hl 0 rfl) ?_
        refine lv_aload_n hx hb dX3_drawnWay_30 rfl (lv_at hl 4 rfl) ?_
        refine va_get (D := D) (ci := 3) (v := .ref n) (C := RX3) (T := TX3) (N := 10) hx hb hts inlX3 hown hK hP 0 rfl rfl 0 (by decide) (hts (Cond.fieldLink RX3 31 "ChanceRings$Outcome" "net" "LChanceRings$Net;") qw_619) (fun _ h9 => h9) rfl dX3_drawnWay_31 ?_
        refine va_get (D := D) (ci := 2) (v := .ref n_ways) (C := RX2) (T := TX2) (N := 8) hx hb hts inlX2 hown hK hP 1 rfl rfl 4 (by decide) (hts (Cond.fieldLink RX3 118 "ChanceRings$Net" "ways" "[I") qw_642) (fun _ h9 => h9) rfl dX3_drawnWay_34 ?_
        refine lv_iload_n hx hb dX3_drawnWay_37 rfl (lv_at hl 5 rfl) ?_
        refine va_iald hx hb hK hP 3 0 rfl rfl (tr_in h_p0 (by decide) (by decide)) dX3_drawnWay_38 ?_
        refine lv_topi (fun v_90901 v_90901_e => ?_)
        have h_v_90901 : 0 ≤ (v_90901 : Int32).toInt ∧ (v_90901 : Int32).toInt ≤ 3 := by rw [v_90901_e]; exact h_n_fways _
        refine lv_icmp_ge (tgt := 73) hx hb dX3_drawnWay_39 (by decide) (fun c_90902 => ?_) (fun c_90902 => ?_)
        · skip
          refine lv_iconst (v := 0) hx hb dX3_drawnWay_73 (by decide) ?_
          exact W.iret (v := 0) hx hb hr (fun t ht hW => ⟨0, rfl, (⟨by decide, by decide⟩ : 0 ≤ (0 : Int32).toInt ∧ (0 : Int32).toInt ≤ 2), ht⟩) (fun _ h => nomatch h) dX3_drawnWay_74
        · skip
          have c_90902_i := Int32.lt_iff_toInt_lt.mp (Int32.not_le.mp c_90902)
          have h_90903 : 0 ≤ (x_90898 : Int32).toInt ∧ (x_90898 : Int32).toInt ≤ 2 := nr_lt_l h_x_90898 h_v_90901 c_90902_i (by decide) (by decide)
          have h_90904 : 1 ≤ (v_90901 : Int32).toInt ∧ (v_90901 : Int32).toInt ≤ 3 := nr_lt_r h_x_90898 h_v_90901 c_90902_i (by decide) (by decide)
          refine lv_iload hx hb dX3_drawnWay_42 (lv_at hl 1 rfl) ?_
          refine lv_aload_n hx hb dX3_drawnWay_44 rfl (lv_at hl 4 rfl) ?_
          refine va_get (D := D) (ci := 3) (v := .ref n) (C := RX3) (T := TX3) (N := 10) hx hb hts inlX3 hown hK hP 0 rfl rfl 0 (by decide) (hts (Cond.fieldLink RX3 31 "ChanceRings$Outcome" "net" "LChanceRings$Net;") qw_619) (fun _ h9 => h9) rfl dX3_drawnWay_45 ?_
          refine lv_iload_n hx hb dX3_drawnWay_48 rfl (lv_at hl 5 rfl) ?_
          refine lv_iload hx hb dX3_drawnWay_49 (lv_at hl 0 rfl) ?_
          have hPc := hP.sub (ws' := [(wO2 n n_nodes n_kind n_pay n_name n_ways n_held n_targets n_weights), (wI g n_weights 0 36 n_fweights)]) [1, 4] rfl
          refine vp_callSi (va_Run.run (va_runV (As := [.int p0, .int x_90898]) (rest := [.int x_90899]) ⟨hx, hb, hml, hown, hts⟩ (c_X2_weight l D g n p0 x_90898 n_nodes n_kind n_pay n_name n_ways n_held n_targets n_weights n_fweights (tr_w h_p0 (by decide) (by decide)) (tr_w h_90903 (by decide) (by decide)) (tr_w h_n_nodes (by decide) (by decide))) (cwV 2 hts (tz_gV qw_643 qw_590 qw_591 qw_322 qw_592) rfl rfl rfl (by decide +kernel) ⟨Nat.le_of_ble_eq_true rfl, Nat.le_of_ble_eq_true rfl⟩) ⟨tz_blS, va_recv hK hPc (ci := 2) (q0 := 0) rfl rfl, tz_preS hPc hK⟩ rfl rfl hl.1 rfl (lv_room (Nat.le_of_ble_eq_true rfl)) dX3_drawnWay_51 ⟨Nat.le_of_ble_eq_true rfl, Nat.le_of_ble_eq_true rfl⟩)) (fun r_90905 hw => ?_)
          refine lv_iadd hx hb dX3_drawnWay_54 ?_
          refine lv_topi (fun v_90906 v_90906_e => ?_)
          refine lv_istore (lv' := [(5, .int v_90906), (6, .int x_90898), (4, .int 0), (3, .int r_90801), (0, .ref oc), (1, .int p0), (2, .int p1)]) hx hb dX3_drawnWay_55 hl (by decide) rfl (fun ls hl => ?_)
          refine lv_iload hx hb dX3_drawnWay_57 (lv_at hl 0 rfl) ?_
          refine lv_iload hx hb dX3_drawnWay_59 (lv_at hl 2 rfl) ?_
          refine lv_icmp_le (tgt := 67) hx hb dX3_drawnWay_61 (by decide) (fun c_90907 => ?_) (fun c_90907 => ?_)
          · skip
            have c_90907_i := Int32.le_iff_toInt_le.mp c_90907
            have h_90908 : (-2147483648) ≤ (v_90906 : Int32).toInt ∧ (v_90906 : Int32).toInt ≤ 0 := nr_le_l (tr_any v_90906) (⟨by decide, by decide⟩ : 0 ≤ (0 : Int32).toInt ∧ (0 : Int32).toInt ≤ 0) c_90907_i (by decide) (by decide)
            obtain ⟨v_90910, v_90910_e⟩ : ∃ y : Int32, y = x_90898 + Int32.ofInt 1 := ⟨_, rfl⟩
            have h_v_90910 : 1 ≤ (v_90910 : Int32).toInt ∧ (v_90910 : Int32).toInt ≤ 3 := by rw [v_90910_e]; exact tr_add h_90903 (⟨by decide, by decide⟩ : 1 ≤ (Int32.ofInt 1 : Int32).toInt ∧ (Int32.ofInt 1 : Int32).toInt ≤ 1) (by decide) (by decide) (by decide) (by decide)
            have q_v_90910 : v_90910.toInt = x_90898.toInt + 1 := by rw [v_90910_e]; exact tr_addE h_90903 (⟨by decide, by decide⟩ : 1 ≤ (Int32.ofInt 1 : Int32).toInt ∧ (Int32.ofInt 1 : Int32).toInt ≤ 1) (by decide) (by decide)
            refine lv_iinc (v := v_90910) (lv' := [(6, .int v_90910), (5, .int v_90906), (4, .int 0), (3, .int r_90801), (0, .ref oc), (1, .int p0), (2, .int p1)]) hx hb dX3_drawnWay_67 hl (k := 1) rfl v_90910_e.symm (by decide) rfl (fun ls hl => ?_)
            refine lv_goto (tgt := 28) hx hb dX3_drawnWay_70 (by decide) ?_
            exact ih_90900 v_90910 v_90906 ls (tr_w h_v_90910 (by decide) (by decide)) (tr_w h_90908 (by decide) (by decide)) (by (first | (clear h_p0 h_orc h_ose h_n_nodes h_90803 h_x_90899; omega) | omega)) (lv_sub hl [0, 1, 2, 3, 4, 5, 6] rfl)
          · skip
            have c_90907_i := Int32.lt_iff_toInt_lt.mp (Int32.not_le.mp c_90907)
            have h_90909 : 1 ≤ (v_90906 : Int32).toInt ∧ (v_90906 : Int32).toInt ≤ 2147483647 := nr_lt_r (⟨by decide, by decide⟩ : 0 ≤ (0 : Int32).toInt ∧ (0 : Int32).toInt ≤ 0) (tr_any v_90906) c_90907_i (by decide) (by decide)
            refine lv_iload hx hb dX3_drawnWay_64 (lv_at hl 1 rfl) ?_
            exact W.iret (v := x_90898) hx hb hr (fun t ht hW => ⟨x_90898, rfl, (tr_w h_90903 (by decide) (by decide)), ht⟩) (fun _ h => nomatch h) dX3_drawnWay_66
    exact lp_90900 4 0 0 ls (⟨by decide, by decide⟩ : 0 ≤ (0 : Int32).toInt ∧ (0 : Int32).toInt ≤ 3) (⟨by decide, by decide⟩ : (-2147483648) ≤ (0 : Int32).toInt ∧ (0 : Int32).toInt ≤ 0) (by decide) (lv_sub hl [0, 1, 2, 3, 4, 5, 6] rfl)
set_option maxHeartbeats 4000000 in
set_option maxRecDepth 100000 in
theorem c_X3_walk (l : Launch) (D : va_G) (g : Nat → ClassId) (oc : Nat) (p0 : Int32) (p1 : Int32) (p2 : Int32) (n : Nat) (sv : Nat) (oc_plan : Nat) (ow : Nat) (ol : Nat) (oc_reach : Nat) (oc_ringBits : Nat) (orc : Int32) (orn : Int32) (ose : Int32) (n_nodes : Int32) (n_kind : Nat) (n_pay : Nat) (n_name : Nat) (n_ways : Nat) (n_held : Nat) (n_targets : Nat) (n_weights : Nat) (n_fkind : Nat → Int32) (n_fways : Nat → Int32) (n_ftargets : Nat → Int32) (n_fweights : Nat → Int32) (opf : Nat → Int32) (h_p0 : 0 ≤ (p0 : Int32).toInt ∧ (p0 : Int32).toInt ≤ 11) (h_p2 : 0 ≤ (p2 : Int32).toInt ∧ (p2 : Int32).toInt ≤ 60) (h_orc : 0 ≤ (orc : Int32).toInt ∧ (orc : Int32).toInt ≤ 12) (h_ose : 0 ≤ (ose : Int32).toInt ∧ (ose : Int32).toInt ≤ 1) (h_n_nodes : 0 ≤ (n_nodes : Int32).toInt ∧ (n_nodes : Int32).toInt ≤ 12) (h_n_fkind : ∀ j : Nat, 0 ≤ (n_fkind j).toInt ∧ (n_fkind j).toInt ≤ 3) (h_n_fways : ∀ j : Nat, 0 ≤ (n_fways j).toInt ∧ (n_fways j).toInt ≤ 3) (h_n_ftargets : ∀ j : Nat, 0 ≤ (n_ftargets j).toInt ∧ (n_ftargets j).toInt ≤ 11) (h_opf : ∀ j : Nat, 0 ≤ (opf j).toInt ∧ (opf j).toInt ≤ 2) : Met l yX3_walk (.code yX3_walk cX3_walk 8 (some .int) :: wsL_law) ({ frames := 2, cells := 0, slots := 0, locals := 49 }) (va_Pc [.ref oc, .int p0, .int p1, .int p2] (fun U => va_P D vwCl [(wO3 oc n sv oc_plan ow ol oc_reach oc_ringBits orc orn ose), (wO2 n n_nodes n_kind n_pay n_name n_ways n_held n_targets n_weights), (wI g n_kind 0 12 n_fkind), (wI g n_ways 0 12 n_fways), (wI g n_targets 0 36 n_ftargets), (wI g n_weights 0 36 n_fweights), (wI g oc_plan 0 12 opf)] U.heap ∧ va_K D vwCl (TY g) U)) (vp_Si (fun r => 0 ≤ (r : Int32).toInt ∧ (r : Int32).toInt ≤ 11)) 0 0 (fun _ => False) := by
  refine Met.ofW (cc := cX3_walk) (maxL := 8) (ret := (some .int)) (by decide) rfl ?_
  intro p e s m args below meth c s₁ B hml hv
  obtain ⟨ha, hP, hK⟩ := hv
  have hx := B.exec
  have hb := B.bytes
  have hr := B.returns
  have hts0 := atoms_spec (ws := (.code yX3_walk cX3_walk 8 (some .int) :: wsL_law)) B.pre
  have hts : ∀ w ∈ wsL_law, w.before args s = true := fun w h => hts0 w (List.mem_cons_of_mem _ h)
  have hown : s.vm.findClass RX3 = some m.cls := findClass_of_methodNamed B.named
  have hlocks := B.notSynchronized
  have hP : va_P D vwCl [(wO3 oc n sv oc_plan ow ol oc_reach oc_ringBits orc orn ose), (wO2 n n_nodes n_kind n_pay n_name n_ways n_held n_targets n_weights), (wI g n_kind 0 12 n_fkind), (wI g n_ways 0 12 n_fways), (wI g n_targets 0 36 n_ftargets), (wI g n_weights 0 36 n_fweights), (wI g oc_plan 0 12 opf)] s.heap := hP
  refine W.eq (g2 := entryFrame m ([.ref oc, .int p0, .int p1, .int p2] : List Value).toArray 8) (by rw [ha]) ?_
  have hl := lv_entry ([.ref oc, .int p0, .int p1, .int p2]) (n := 8) (Nat.le_of_ble_eq_true rfl)
  rw [lg_entry_eq]
  generalize (lg_sl ([.ref oc, .int p0, .int p1, .int p2]) ++ List.replicate (8 - (lg_sl ([.ref oc, .int p0, .int p1, .int p2])).length) Slot.unset).toArray = ls at hl ⊢
  have hl : lv_has ls 8 [(0, .ref oc), (1, .int p0), (2, .int p1), (3, .int p2)] := hl
  refine lv_iload_n hx hb dX3_walk_0 rfl (lv_at hl 1 rfl) ?_
  refine lv_istore (lv' := [(4, .int p0), (0, .ref oc), (1, .int p0), (2, .int p1), (3, .int p2)]) hx hb dX3_walk_1 hl (by decide) rfl (fun ls hl => ?_)
  refine lv_iload_n hx hb dX3_walk_3 rfl (lv_at hl 3 rfl) ?_
  refine lv_istore (lv' := [(5, .int p1), (4, .int p0), (0, .ref oc), (1, .int p0), (2, .int p1), (3, .int p2)]) hx hb dX3_walk_4 hl (by decide) rfl (fun ls hl => ?_)
  refine lv_iconst (v := 0) hx hb dX3_walk_6 (by decide) ?_
  refine lv_istore (lv' := [(6, .int 0), (5, .int p1), (4, .int p0), (0, .ref oc), (1, .int p0), (2, .int p1), (3, .int p2)]) hx hb dX3_walk_7 hl (by decide) rfl (fun ls hl => ?_)
  have lp_91209 : ∀ (n_91209 : Nat) (x_91206 : Int32) (x_91207 : Int32) (x_91208 : Int32) (ls : Array Slot), (0 ≤ (x_91206 : Int32).toInt ∧ (x_91206 : Int32).toInt ≤ 100) → (0 ≤ (x_91207 : Int32).toInt ∧ (x_91207 : Int32).toInt ≤ 11) → (100 - x_91206.toInt < (n_91209 : Int)) → lv_has ls 8 [(6, .int x_91206), (5, .int x_91208), (4, .int x_91207), (0, .ref oc), (1, .int p0), (2, .int p1), (3, .int p2)] → W p l e (headSpec (.code yX3_walk cX3_walk 8 (some .int) :: wsL_law) ({ frames := 2, cells := 0, slots := 0, locals := 49 })).room s m args below meth c s.heap [] 0 0 (MQ below (vp_Si (fun r => 0 ≤ (r : Int32).toInt ∧ (r : Int32).toInt ≤ 11)) args s 0 0 (fun _ => False)) (F0 m 9 ls []) := by
    intro n_91209
    induction n_91209 with
    | zero =>
      intro x_91206 x_91207 x_91208 ls h_x_91206 h_x_91207 hm_91209 hl
      exfalso; omega
    | succ n_91209 ih_91209 =>
      intro x_91206 x_91207 x_91208 ls h_x_91206 h_x_91207 hm_91209 hl
      refine lv_iload hx hb dX3_walk_9 (lv_at hl 0 rfl) ?_
      refine lv_iload_n hx hb dX3_walk_11 rfl (lv_at hl 6 rfl) ?_
      refine lv_icmp_ge (tgt := 94) hx hb dX3_walk_12 (by decide) (fun c_91210 => ?_) (fun c_91210 => ?_)
      · skip
        refine lv_iload hx hb dX3_walk_94 (lv_at hl 2 rfl) ?_
        exact W.iret (v := x_91207) hx hb hr (fun t ht hW => ⟨x_91207, rfl, (tr_w h_x_91207 (by decide) (by decide)), ht⟩) (fun _ h => nomatch h) dX3_walk_96
      · skip
        have c_91210_i := Int32.lt_iff_toInt_lt.mp (Int32.not_le.mp c_91210)
        have h_91211 : 0 ≤ (x_91206 : Int32).toInt ∧ (x_91206 : Int32).toInt ≤ 59 := nr_lt_l h_x_91206 h_p2 c_91210_i (by decide) (by decide)
        have h_91212 : 1 ≤ (p2 : Int32).toInt ∧ (p2 : Int32).toInt ≤ 60 := nr_lt_r h_x_91206 h_p2 c_91210_i (by decide) (by decide)
        refine lv_aload_n hx hb dX3_walk_15 rfl (lv_at hl 3 rfl) ?_
        refine va_get (D := D) (ci := 3) (v := .ref n) (C := RX3) (T := TX3) (N := 10) hx hb hts inlX3 hown hK hP 0 rfl rfl 0 (by decide) (hts (Cond.fieldLink RX3 31 "ChanceRings$Outcome" "net" "LChanceRings$Net;") qw_619) (fun _ h9 => h9) rfl dX3_walk_16 ?_
        refine va_get (D := D) (ci := 2) (v := .ref n_kind) (C := RX2) (T := TX2) (N := 8) hx hb hts inlX2 hown hK hP 1 rfl rfl 1 (by decide) (hts (Cond.fieldLink RX3 96 "ChanceRings$Net" "kind" "[I") qw_626) (fun _ h9 => h9) rfl dX3_walk_19 ?_
        refine lv_iload hx hb dX3_walk_22 (lv_at hl 2 rfl) ?_
        refine va_iald hx hb hK hP 2 0 rfl rfl (tr_in h_x_91207 (by decide) (by decide)) dX3_walk_24 ?_
        refine lv_topi (fun v_91213 v_91213_e => ?_)
        have h_v_91213 : 0 ≤ (v_91213 : Int32).toInt ∧ (v_91213 : Int32).toInt ≤ 3 := by rw [v_91213_e]; exact h_n_fkind _
        refine lv_if_eq (tgt := 94) hx hb dX3_walk_25 (by decide) (fun c_91214 => ?_) (fun c_91214 => ?_)
        · skip
          have c_91214_i : (v_91213 : Int32).toInt = (0 : Int32).toInt := congrArg Int32.toInt c_91214
          have h_91215 : 0 ≤ (v_91213 : Int32).toInt ∧ (v_91213 : Int32).toInt ≤ 0 := nr_eq_l h_v_91213 (⟨by decide, by decide⟩ : 0 ≤ (0 : Int32).toInt ∧ (0 : Int32).toInt ≤ 0) c_91214_i (by decide) (by decide)
          refine lv_iload hx hb dX3_walk_94 (lv_at hl 2 rfl) ?_
          exact W.iret (v := x_91207) hx hb hr (fun t ht hW => ⟨x_91207, rfl, (tr_w h_x_91207 (by decide) (by decide)), ht⟩) (fun _ h => nomatch h) dX3_walk_96
        · skip
          have c_91214_i : ¬ (v_91213 : Int32).toInt = (0 : Int32).toInt := (fun q => c_91214 (Int32.toInt_inj.mp q))
          have h_91216 : 1 ≤ (v_91213 : Int32).toInt ∧ (v_91213 : Int32).toInt ≤ 3 := nr_ne_l h_v_91213 (⟨by decide, by decide⟩ : 0 ≤ (0 : Int32).toInt ∧ (0 : Int32).toInt ≤ 0) c_91214_i (by decide) (by decide)
          refine lv_aload_n hx hb dX3_walk_28 rfl (lv_at hl 3 rfl) ?_
          refine va_get (D := D) (ci := 3) (v := .ref oc_plan) (C := RX3) (T := TX3) (N := 10) hx hb hts inlX3 hown hK hP 0 rfl rfl 2 (by decide) (hts (Cond.fieldLink RX3 9 "ChanceRings$Outcome" "plan" "[I") qw_624) (fun _ h9 => h9) rfl dX3_walk_29 ?_
          refine lv_iload hx hb dX3_walk_32 (lv_at hl 2 rfl) ?_
          refine va_iald hx hb hK hP 6 0 rfl rfl (tr_in h_x_91207 (by decide) (by decide)) dX3_walk_34 ?_
          refine lv_topi (fun v_91217 v_91217_e => ?_)
          have h_v_91217 : 0 ≤ (v_91217 : Int32).toInt ∧ (v_91217 : Int32).toInt ≤ 2 := by rw [v_91217_e]; exact h_opf _
          refine lv_istore (lv' := [(7, .int v_91217), (6, .int x_91206), (5, .int x_91208), (4, .int x_91207), (0, .ref oc), (1, .int p0), (2, .int p1), (3, .int p2)]) hx hb dX3_walk_35 hl (by decide) rfl (fun ls hl => ?_)
          refine lv_aload_n hx hb dX3_walk_37 rfl (lv_at hl 4 rfl) ?_
          refine va_get (D := D) (ci := 3) (v := .ref n) (C := RX3) (T := TX3) (N := 10) hx hb hts inlX3 hown hK hP 0 rfl rfl 0 (by decide) (hts (Cond.fieldLink RX3 31 "ChanceRings$Outcome" "net" "LChanceRings$Net;") qw_619) (fun _ h9 => h9) rfl dX3_walk_38 ?_
          refine va_get (D := D) (ci := 2) (v := .ref n_kind) (C := RX2) (T := TX2) (N := 8) hx hb hts inlX2 hown hK hP 1 rfl rfl 1 (by decide) (hts (Cond.fieldLink RX3 96 "ChanceRings$Net" "kind" "[I") qw_626) (fun _ h9 => h9) rfl dX3_walk_41 ?_
          refine lv_iload hx hb dX3_walk_44 (lv_at hl 3 rfl) ?_
          refine va_iald hx hb hK hP 2 0 rfl rfl (tr_in h_x_91207 (by decide) (by decide)) dX3_walk_46 ?_
          refine tz_i (y := v_91213) v_91213_e.symm ?_
          refine lv_iconst (v := 3) hx hb dX3_walk_47 (by decide) ?_
          refine lv_icmp_ne (tgt := 75) hx hb dX3_walk_48 (by decide) (fun c_91218 => ?_) (fun c_91218 => ?_)
          · skip
            have c_91218_i : ¬ (v_91213 : Int32).toInt = (3 : Int32).toInt := (fun q => c_91218 (Int32.toInt_inj.mp q))
            have h_91219 : 1 ≤ (v_91213 : Int32).toInt ∧ (v_91213 : Int32).toInt ≤ 2 := nr_ne_l h_91216 (⟨by decide, by decide⟩ : 3 ≤ (3 : Int32).toInt ∧ (3 : Int32).toInt ≤ 3) c_91218_i (by decide) (by decide)
            refine lv_aload_n hx hb dX3_walk_75 rfl (lv_at hl 4 rfl) ?_
            refine va_get (D := D) (ci := 3) (v := .ref n) (C := RX3) (T := TX3) (N := 10) hx hb hts inlX3 hown hK hP 0 rfl rfl 0 (by decide) (hts (Cond.fieldLink RX3 31 "ChanceRings$Outcome" "net" "LChanceRings$Net;") qw_619) (fun _ h9 => h9) rfl dX3_walk_76 ?_
            refine lv_iload hx hb dX3_walk_79 (lv_at hl 3 rfl) ?_
            refine lv_iload hx hb dX3_walk_81 (lv_at hl 0 rfl) ?_
            have hPc := hP.sub (ws' := [(wO2 n n_nodes n_kind n_pay n_name n_ways n_held n_targets n_weights), (wI g n_targets 0 36 n_ftargets)]) [1, 4] rfl
            refine vp_callSi (va_Run.run (va_runV (As := [.int x_91207, .int v_91217]) (rest := []) ⟨hx, hb, hml, hown, hts⟩ (c_X2_target l D g n x_91207 v_91217 n_nodes n_kind n_pay n_name n_ways n_held n_targets n_weights n_ftargets (tr_w h_x_91207 (by decide) (by decide)) (tr_w h_v_91217 (by decide) (by decide)) (tr_w h_n_nodes (by decide) (by decide)) (tr_wa h_n_ftargets (by decide) (by decide))) (cwV 2 hts (tz_gV qw_644 qw_325 qw_326 qw_322 qw_327) rfl rfl rfl (by decide +kernel) ⟨Nat.le_of_ble_eq_true rfl, Nat.le_of_ble_eq_true rfl⟩) ⟨tz_blS, va_recv hK hPc (ci := 2) (q0 := 0) rfl rfl, tz_preS hPc hK⟩ rfl rfl hl.1 rfl (lv_room (Nat.le_of_ble_eq_true rfl)) dX3_walk_83 ⟨Nat.le_of_ble_eq_true rfl, Nat.le_of_ble_eq_true rfl⟩)) (fun r_91221 hw => ?_)
            have hw_91222 : 0 ≤ (r_91221 : Int32).toInt ∧ (r_91221 : Int32).toInt ≤ 11 := hw
            refine lv_istore (lv' := [(4, .int r_91221), (7, .int v_91217), (6, .int x_91206), (5, .int x_91208), (0, .ref oc), (1, .int p0), (2, .int p1), (3, .int p2)]) hx hb dX3_walk_86 hl (by decide) rfl (fun ls hl => ?_)
            obtain ⟨v_91223, v_91223_e⟩ : ∃ y : Int32, y = x_91206 + Int32.ofInt 1 := ⟨_, rfl⟩
            have h_v_91223 : 1 ≤ (v_91223 : Int32).toInt ∧ (v_91223 : Int32).toInt ≤ 60 := by rw [v_91223_e]; exact tr_add h_91211 (⟨by decide, by decide⟩ : 1 ≤ (Int32.ofInt 1 : Int32).toInt ∧ (Int32.ofInt 1 : Int32).toInt ≤ 1) (by decide) (by decide) (by decide) (by decide)
            have q_v_91223 : v_91223.toInt = x_91206.toInt + 1 := by rw [v_91223_e]; exact tr_addE h_91211 (⟨by decide, by decide⟩ : 1 ≤ (Int32.ofInt 1 : Int32).toInt ∧ (Int32.ofInt 1 : Int32).toInt ≤ 1) (by decide) (by decide)
            refine lv_iinc (v := v_91223) (lv' := [(6, .int v_91223), (4, .int r_91221), (7, .int v_91217), (5, .int x_91208), (0, .ref oc), (1, .int p0), (2, .int p1), (3, .int p2)]) hx hb dX3_walk_88 hl (k := 2) rfl v_91223_e.symm (by decide) rfl (fun ls hl => ?_)
            refine lv_goto (tgt := 9) hx hb dX3_walk_91 (by decide) ?_
            exact ih_91209 v_91223 r_91221 x_91208 ls (tr_w h_v_91223 (by decide) (by decide)) (tr_w hw_91222 (by decide) (by decide)) (by (first | (clear h_p0 h_orc h_ose h_n_nodes h_x_91207 h_v_91213 c_91214_i h_91216 h_v_91217 c_91218_i h_91219; omega) | omega)) (lv_sub hl [0, 3, 1, 4, 5, 6, 7] rfl)
          · skip
            have c_91218_i : (v_91213 : Int32).toInt = (3 : Int32).toInt := congrArg Int32.toInt c_91218
            have h_91220 : 3 ≤ (v_91213 : Int32).toInt ∧ (v_91213 : Int32).toInt ≤ 3 := nr_eq_l h_91216 (⟨by decide, by decide⟩ : 3 ≤ (3 : Int32).toInt ∧ (3 : Int32).toInt ≤ 3) c_91218_i (by decide) (by decide)
            refine lv_iload hx hb dX3_walk_51 (lv_at hl 2 rfl) ?_
            refine lv_ldc (v := 1103515245) hx hb hown (hts (Cond.constant RX3 107 (1103515245)) qw_645) dX3_walk_53 ?_
            refine lv_imul hx hb dX3_walk_55 ?_
            refine lv_topi (fun v_91224 v_91224_e => ?_)
            refine lv_sipush (v := 12345) hx hb dX3_walk_56 (by decide) ?_
            refine lv_iadd hx hb dX3_walk_59 ?_
            refine lv_topi (fun v_91225 v_91225_e => ?_)
            refine lv_istore (lv' := [(5, .int v_91225), (7, .int v_91217), (6, .int x_91206), (4, .int x_91207), (0, .ref oc), (1, .int p0), (2, .int p1), (3, .int p2)]) hx hb dX3_walk_60 hl (by decide) rfl (fun ls hl => ?_)
            refine lv_aload_n hx hb dX3_walk_62 rfl (lv_at hl 4 rfl) ?_
            refine lv_iload hx hb dX3_walk_63 (lv_at hl 3 rfl) ?_
            refine lv_iload hx hb dX3_walk_65 (lv_at hl 0 rfl) ?_
            refine lv_bipush (v := 8) hx hb dX3_walk_67 (by decide) ?_
            refine lv_iushr hx hb dX3_walk_69 rfl ?_
            refine lv_topi (fun v_91226 v_91226_e => ?_)
            have hPc := hP.sub (ws' := [(wO3 oc n sv oc_plan ow ol oc_reach oc_ringBits orc orn ose), (wO2 n n_nodes n_kind n_pay n_name n_ways n_held n_targets n_weights), (wI g n_kind 0 12 n_fkind), (wI g n_ways 0 12 n_fways), (wI g n_weights 0 36 n_fweights)]) [0, 1, 2, 3, 5] rfl
            refine vp_callSi (va_Run.run (va_runV (As := [.int x_91207, .int v_91226]) (rest := []) ⟨hx, hb, hml, hown, hts⟩ (c_X3_drawnWay l D g oc x_91207 v_91226 n sv oc_plan ow ol oc_reach oc_ringBits orc orn ose n_nodes n_kind n_pay n_name n_ways n_held n_targets n_weights n_fkind n_fways n_fweights (tr_w h_x_91207 (by decide) (by decide)) (tr_w h_orc (by decide) (by decide)) (tr_w h_ose (by decide) (by decide)) (tr_w h_n_nodes (by decide) (by decide)) (tr_wa h_n_fkind (by decide) (by decide)) (tr_wa h_n_fways (by decide) (by decide))) (cwV 2 hts (tz_gV qw_646 qw_647 qw_648 qw_632 qw_649) rfl rfl rfl (by decide +kernel) ⟨Nat.le_of_ble_eq_true rfl, Nat.le_of_ble_eq_true rfl⟩) ⟨tz_blS, va_recv hK hPc (ci := 3) (q0 := 0) rfl rfl, tz_preS hPc hK⟩ rfl rfl hl.1 rfl (lv_room (Nat.le_of_ble_eq_true rfl)) dX3_walk_70 ⟨Nat.le_of_ble_eq_true rfl, Nat.le_of_ble_eq_true rfl⟩)) (fun r_91227 hw => ?_)
            have hw_91228 : 0 ≤ (r_91227 : Int32).toInt ∧ (r_91227 : Int32).toInt ≤ 2 := hw
            refine lv_istore (lv' := [(7, .int r_91227), (5, .int v_91225), (6, .int x_91206), (4, .int x_91207), (0, .ref oc), (1, .int p0), (2, .int p1), (3, .int p2)]) hx hb dX3_walk_73 hl (by decide) rfl (fun ls hl => ?_)
            refine lv_aload_n hx hb dX3_walk_75 rfl (lv_at hl 4 rfl) ?_
            refine va_get (D := D) (ci := 3) (v := .ref n) (C := RX3) (T := TX3) (N := 10) hx hb hts inlX3 hown hK hP 0 rfl rfl 0 (by decide) (hts (Cond.fieldLink RX3 31 "ChanceRings$Outcome" "net" "LChanceRings$Net;") qw_619) (fun _ h9 => h9) rfl dX3_walk_76 ?_
            refine lv_iload hx hb dX3_walk_79 (lv_at hl 3 rfl) ?_
            refine lv_iload hx hb dX3_walk_81 (lv_at hl 0 rfl) ?_
            have hPc := hP.sub (ws' := [(wO2 n n_nodes n_kind n_pay n_name n_ways n_held n_targets n_weights), (wI g n_targets 0 36 n_ftargets)]) [1, 4] rfl
            refine vp_callSi (va_Run.run (va_runV (As := [.int x_91207, .int r_91227]) (rest := []) ⟨hx, hb, hml, hown, hts⟩ (c_X2_target l D g n x_91207 r_91227 n_nodes n_kind n_pay n_name n_ways n_held n_targets n_weights n_ftargets (tr_w h_x_91207 (by decide) (by decide)) (tr_w hw_91228 (by decide) (by decide)) (tr_w h_n_nodes (by decide) (by decide)) (tr_wa h_n_ftargets (by decide) (by decide))) (cwV 2 hts (tz_gV qw_644 qw_325 qw_326 qw_322 qw_327) rfl rfl rfl (by decide +kernel) ⟨Nat.le_of_ble_eq_true rfl, Nat.le_of_ble_eq_true rfl⟩) ⟨tz_blS, va_recv hK hPc (ci := 2) (q0 := 0) rfl rfl, tz_preS hPc hK⟩ rfl rfl hl.1 rfl (lv_room (Nat.le_of_ble_eq_true rfl)) dX3_walk_83 ⟨Nat.le_of_ble_eq_true rfl, Nat.le_of_ble_eq_true rfl⟩)) (fun r_91229 hw => ?_)
            have hw_91230 : 0 ≤ (r_91229 : Int32).toInt ∧ (r_91229 : Int32).toInt ≤ 11 := hw
            refine lv_istore (lv' := [(4, .int r_91229), (7, .int r_91227), (5, .int v_91225), (6, .int x_91206), (0, .ref oc), (1, .int p0), (2, .int p1), (3, .int p2)]) hx hb dX3_walk_86 hl (by decide) rfl (fun ls hl => ?_)
            obtain ⟨v_91231, v_91231_e⟩ : ∃ y : Int32, y = x_91206 + Int32.ofInt 1 := ⟨_, rfl⟩
            have h_v_91231 : 1 ≤ (v_91231 : Int32).toInt ∧ (v_91231 : Int32).toInt ≤ 60 := by rw [v_91231_e]; exact tr_add h_91211 (⟨by decide, by decide⟩ : 1 ≤ (Int32.ofInt 1 : Int32).toInt ∧ (Int32.ofInt 1 : Int32).toInt ≤ 1) (by decide) (by decide) (by decide) (by decide)
            have q_v_91231 : v_91231.toInt = x_91206.toInt + 1 := by rw [v_91231_e]; exact tr_addE h_91211 (⟨by decide, by decide⟩ : 1 ≤ (Int32.ofInt 1 : Int32).toInt ∧ (Int32.ofInt 1 : Int32).toInt ≤ 1) (by decide) (by decide)
            refine lv_iinc (v := v_91231) (lv' := [(6, .int v_91231), (4, .int r_91229), (7, .int r_91227), (5, .int v_91225), (0, .ref oc), (1, .int p0), (2, .int p1), (3, .int p2)]) hx hb dX3_walk_88 hl (k := 3) rfl v_91231_e.symm (by decide) rfl (fun ls hl => ?_)
            refine lv_goto (tgt := 9) hx hb dX3_walk_91 (by decide) ?_
            exact ih_91209 v_91231 r_91229 v_91225 ls (tr_w h_v_91231 (by decide) (by decide)) (tr_w hw_91230 (by decide) (by decide)) (by (first | (clear h_p0 h_orc h_ose h_n_nodes h_x_91207 h_v_91213 c_91214_i h_91216 h_v_91217 c_91218_i h_91220 hw_91228; omega) | omega)) (lv_sub hl [0, 3, 1, 4, 5, 6, 7] rfl)
  exact lp_91209 101 0 p0 p1 ls (⟨by decide, by decide⟩ : 0 ≤ (0 : Int32).toInt ∧ (0 : Int32).toInt ≤ 100) (tr_w h_p0 (by decide) (by decide)) (by decide) (lv_sub hl [0, 1, 2, 3, 4, 5, 6] rfl)
set_option maxHeartbeats 4000000 in
set_option maxRecDepth 100000 in
theorem c_X3_settle (l : Launch) (D : va_G) (g : Nat → ClassId) (sz : Nat) (oc : Nat) (n : Nat) (sv : Nat) (oc_plan : Nat) (ow : Nat) (ol : Nat) (oc_reach : Nat) (oc_ringBits : Nat) (orc : Int32) (orn : Int32) (ose : Int32) (co : Nat) (sv_keep : Nat) (sv_scaled : Nat) (eq : Nat) (co_place : Nat) (n_nodes : Int32) (n_kind : Nat) (n_pay : Nat) (n_name : Nat) (n_ways : Nat) (n_held : Nat) (n_targets : Nat) (n_weights : Nat) (n_fkind : Nat → Int32) (n_fpay : Nat → Int32) (n_fways : Nat → Int32) (n_fheld : Nat → Int32) (n_ftargets : Nat → Int32) (n_fweights : Nat → Int32) (pcf : Nat → Int32) (eq_rows : Nat) (eq_right : Nat) (ew : Int64) (fr : Nat → Int64) (rr : Nat → Nat) (ct : Nat → Nat → Int64) (kpf : Nat → Int32) (opf : Nat → Int32) (orf : Nat → Int32) (obf : Nat → Int32) (ow_part : Nat) (oww : Int64) (owp : Nat → Int64) (ol_part : Nat) (olw : Int64) (olp : Nat → Int64) (h_orc : 0 ≤ (orc : Int32).toInt ∧ (orc : Int32).toInt ≤ 12) (h_ose : 0 ≤ (ose : Int32).toInt ∧ (ose : Int32).toInt ≤ 1) (h_n_nodes : 0 ≤ (n_nodes : Int32).toInt ∧ (n_nodes : Int32).toInt ≤ 12) (h_n_fkind : ∀ j : Nat, 0 ≤ (n_fkind j).toInt ∧ (n_fkind j).toInt ≤ 3) (h_n_fways : ∀ j : Nat, 0 ≤ (n_fways j).toInt ∧ (n_fways j).toInt ≤ 3) (h_n_fheld : ∀ j : Nat, (-1) ≤ (n_fheld j).toInt ∧ (n_fheld j).toInt ≤ 2) (h_n_ftargets : ∀ j : Nat, 0 ≤ (n_ftargets j).toInt ∧ (n_ftargets j).toInt ≤ 11) (h_pcf : ∀ j : Nat, (-1) ≤ (pcf j).toInt ∧ (pcf j).toInt ≤ 7) (h_opf : ∀ j : Nat, 0 ≤ (opf j).toInt ∧ (opf j).toInt ≤ 2) : Met l yX3_settle (.code yX3_settle cX3_settle 3 none :: wsL_law) ({ frames := 6, cells := 0, slots := 0, locals := 158 }) (va_Pc [.ref oc] (fun U => U.heap.size = sz ∧ va_P D vwCl ((wO3 oc n sv oc_plan ow ol oc_reach oc_ringBits orc orn ose) :: (wO6 sv n co sv_keep sv_scaled) :: (wO0 co n eq co_place) :: (wO2 n n_nodes n_kind n_pay n_name n_ways n_held n_targets n_weights) :: (wI g n_kind 0 12 n_fkind) :: (wI g n_pay 0 12 n_fpay) :: (wI g n_ways 0 12 n_fways) :: (wI g n_held 0 12 n_fheld) :: (wI g n_targets 0 36 n_ftargets) :: (wI g n_weights 0 36 n_fweights) :: (wI g co_place 0 12 pcf) :: (wO1 eq eq_rows eq_right ew) :: (wJ g eq_right 1 8 fr) :: (wR g eq_rows 5 8 (fun i => if i < 8 then some (rr i) else none)) :: (wJ g (rr 0) 1 8 (ct 0)) :: (wJ g (rr 1) 1 8 (ct 1)) :: (wJ g (rr 2) 1 8 (ct 2)) :: (wJ g (rr 3) 1 8 (ct 3)) :: (wJ g (rr 4) 1 8 (ct 4)) :: (wJ g (rr 5) 1 8 (ct 5)) :: (wJ g (rr 6) 1 8 (ct 6)) :: (wJ g (rr 7) 1 8 (ct 7)) :: (wI g sv_keep 0 12 kpf) :: (wI g oc_plan 0 12 opf) :: (wI g oc_reach 0 12 orf) :: (wI g oc_ringBits 0 12 obf) :: (wO10 ow ow_part oww) :: (wJ g ow_part 1 12 owp) :: (wO10 ol ol_part olw) :: (wJ g ol_part 1 12 olp) :: []) U.heap ∧ va_K D vwCl (TY g) U ∧ va_D (fun _ => True) ((wO3 oc n sv oc_plan ow ol oc_reach oc_ringBits orc orn ose) :: (wO6 sv n co sv_keep sv_scaled) :: (wO0 co n eq co_place) :: (wO2 n n_nodes n_kind n_pay n_name n_ways n_held n_targets n_weights) :: (wI g n_kind 0 12 n_fkind) :: (wI g n_pay 0 12 n_fpay) :: (wI g n_ways 0 12 n_fways) :: (wI g n_held 0 12 n_fheld) :: (wI g n_targets 0 36 n_ftargets) :: (wI g n_weights 0 36 n_fweights) :: (wI g co_place 0 12 pcf) :: (wO1 eq eq_rows eq_right ew) :: (wJ g eq_right 1 8 fr) :: (wR g eq_rows 5 8 (fun i => if i < 8 then some (rr i) else none)) :: (wJ g (rr 0) 1 8 (ct 0)) :: (wJ g (rr 1) 1 8 (ct 1)) :: (wJ g (rr 2) 1 8 (ct 2)) :: (wJ g (rr 3) 1 8 (ct 3)) :: (wJ g (rr 4) 1 8 (ct 4)) :: (wJ g (rr 5) 1 8 (ct 5)) :: (wJ g (rr 6) 1 8 (ct 6)) :: (wJ g (rr 7) 1 8 (ct 7)) :: (wI g sv_keep 0 12 kpf) :: (wI g oc_plan 0 12 opf) :: (wI g oc_reach 0 12 orf) :: (wI g oc_ringBits 0 12 obf) :: (wO10 ow ow_part oww) :: (wJ g ow_part 1 12 owp) :: (wO10 ol ol_part olw) :: (wJ g ol_part 1 12 olp) :: []))) (va_Qv (fun (_ : Unit) => True) (fun _ t => ∃ xrc : Int32, ∃ xrn : Int32, ∃ xse : Int32, ∃ opc : Nat → Int32, ∃ oew : Int64, ∃ ofr : Nat → Int64, ∃ okp : Nat → Int32, ∃ xpf : Nat → Int32, ∃ xrf : Nat → Int32, ∃ xbf : Nat → Int32, ∃ xow : Int64, ∃ xowp : Nat → Int64, ∃ xol : Int64, ∃ xolp : Nat → Int64, ∃ oct : Nat → Nat → Int64, (0 ≤ (xrc : Int32).toInt ∧ (xrc : Int32).toInt ≤ 12) ∧ (0 ≤ (xse : Int32).toInt ∧ (xse : Int32).toInt ≤ 1) ∧ (∀ j : Nat, (-1) ≤ (opc j).toInt ∧ (opc j).toInt ≤ 7) ∧ (∀ j : Nat, 0 ≤ (xpf j).toInt ∧ (xpf j).toInt ≤ 2) ∧ va_P D vwCl ((wO3 oc n sv oc_plan ow ol oc_reach oc_ringBits xrc xrn xse) :: (wO6 sv n co sv_keep sv_scaled) :: (wO0 co n eq co_place) :: (wO2 n n_nodes n_kind n_pay n_name n_ways n_held n_targets n_weights) :: (wI g n_kind 0 12 n_fkind) :: (wI g n_pay 0 12 n_fpay) :: (wI g n_ways 0 12 n_fways) :: (wI g n_held 0 12 n_fheld) :: (wI g n_targets 0 36 n_ftargets) :: (wI g n_weights 0 36 n_fweights) :: (wI g co_place 0 12 opc) :: (wO1 eq eq_rows eq_right oew) :: (wJ g eq_right 1 8 ofr) :: (wR g eq_rows 5 8 (fun i => if i < 8 then some (rr i) else none)) :: (wJ g (rr 0) 1 8 (oct 0)) :: (wJ g (rr 1) 1 8 (oct 1)) :: (wJ g (rr 2) 1 8 (oct 2)) :: (wJ g (rr 3) 1 8 (oct 3)) :: (wJ g (rr 4) 1 8 (oct 4)) :: (wJ g (rr 5) 1 8 (oct 5)) :: (wJ g (rr 6) 1 8 (oct 6)) :: (wJ g (rr 7) 1 8 (oct 7)) :: (wI g sv_keep 0 12 okp) :: (wI g oc_plan 0 12 xpf) :: (wI g oc_reach 0 12 xrf) :: (wI g oc_ringBits 0 12 xbf) :: (wO10 ow ow_part xow) :: (wJ g ow_part 1 12 xowp) :: (wO10 ol ol_part xol) :: (wJ g ol_part 1 12 xolp) :: []) t.heap ∧ va_D (va_A ((wO3 oc n sv oc_plan ow ol oc_reach oc_ringBits orc orn ose) :: (wO6 sv n co sv_keep sv_scaled) :: (wO0 co n eq co_place) :: (wO2 n n_nodes n_kind n_pay n_name n_ways n_held n_targets n_weights) :: (wI g n_kind 0 12 n_fkind) :: (wI g n_pay 0 12 n_fpay) :: (wI g n_ways 0 12 n_fways) :: (wI g n_held 0 12 n_fheld) :: (wI g n_targets 0 36 n_ftargets) :: (wI g n_weights 0 36 n_fweights) :: (wI g co_place 0 12 pcf) :: (wO1 eq eq_rows eq_right ew) :: (wJ g eq_right 1 8 fr) :: (wR g eq_rows 5 8 (fun i => if i < 8 then some (rr i) else none)) :: (wJ g (rr 0) 1 8 (ct 0)) :: (wJ g (rr 1) 1 8 (ct 1)) :: (wJ g (rr 2) 1 8 (ct 2)) :: (wJ g (rr 3) 1 8 (ct 3)) :: (wJ g (rr 4) 1 8 (ct 4)) :: (wJ g (rr 5) 1 8 (ct 5)) :: (wJ g (rr 6) 1 8 (ct 6)) :: (wJ g (rr 7) 1 8 (ct 7)) :: (wI g sv_keep 0 12 kpf) :: (wI g oc_plan 0 12 opf) :: (wI g oc_reach 0 12 orf) :: (wI g oc_ringBits 0 12 obf) :: (wO10 ow ow_part oww) :: (wJ g ow_part 1 12 owp) :: (wO10 ol ol_part olw) :: (wJ g ol_part 1 12 olp) :: []) sz) ((wO3 oc n sv oc_plan ow ol oc_reach oc_ringBits xrc xrn xse) :: (wO6 sv n co sv_keep sv_scaled) :: (wO0 co n eq co_place) :: (wO2 n n_nodes n_kind n_pay n_name n_ways n_held n_targets n_weights) :: (wI g n_kind 0 12 n_fkind) :: (wI g n_pay 0 12 n_fpay) :: (wI g n_ways 0 12 n_fways) :: (wI g n_held 0 12 n_fheld) :: (wI g n_targets 0 36 n_ftargets) :: (wI g n_weights 0 36 n_fweights) :: (wI g co_place 0 12 opc) :: (wO1 eq eq_rows eq_right oew) :: (wJ g eq_right 1 8 ofr) :: (wR g eq_rows 5 8 (fun i => if i < 8 then some (rr i) else none)) :: (wJ g (rr 0) 1 8 (oct 0)) :: (wJ g (rr 1) 1 8 (oct 1)) :: (wJ g (rr 2) 1 8 (oct 2)) :: (wJ g (rr 3) 1 8 (oct 3)) :: (wJ g (rr 4) 1 8 (oct 4)) :: (wJ g (rr 5) 1 8 (oct 5)) :: (wJ g (rr 6) 1 8 (oct 6)) :: (wJ g (rr 7) 1 8 (oct 7)) :: (wI g sv_keep 0 12 okp) :: (wI g oc_plan 0 12 xpf) :: (wI g oc_reach 0 12 xrf) :: (wI g oc_ringBits 0 12 xbf) :: (wO10 ow ow_part xow) :: (wJ g ow_part 1 12 xowp) :: (wO10 ol ol_part xol) :: (wJ g ol_part 1 12 xolp) :: [])) (va_A ((wO3 oc n sv oc_plan ow ol oc_reach oc_ringBits orc orn ose) :: (wO6 sv n co sv_keep sv_scaled) :: (wO0 co n eq co_place) :: (wO2 n n_nodes n_kind n_pay n_name n_ways n_held n_targets n_weights) :: (wI g n_kind 0 12 n_fkind) :: (wI g n_pay 0 12 n_fpay) :: (wI g n_ways 0 12 n_fways) :: (wI g n_held 0 12 n_fheld) :: (wI g n_targets 0 36 n_ftargets) :: (wI g n_weights 0 36 n_fweights) :: (wI g co_place 0 12 pcf) :: (wO1 eq eq_rows eq_right ew) :: (wJ g eq_right 1 8 fr) :: (wR g eq_rows 5 8 (fun i => if i < 8 then some (rr i) else none)) :: (wJ g (rr 0) 1 8 (ct 0)) :: (wJ g (rr 1) 1 8 (ct 1)) :: (wJ g (rr 2) 1 8 (ct 2)) :: (wJ g (rr 3) 1 8 (ct 3)) :: (wJ g (rr 4) 1 8 (ct 4)) :: (wJ g (rr 5) 1 8 (ct 5)) :: (wJ g (rr 6) 1 8 (ct 6)) :: (wJ g (rr 7) 1 8 (ct 7)) :: (wI g sv_keep 0 12 kpf) :: (wI g oc_plan 0 12 opf) :: (wI g oc_reach 0 12 orf) :: (wI g oc_ringBits 0 12 obf) :: (wO10 ow ow_part oww) :: (wJ g ow_part 1 12 owp) :: (wO10 ol ol_part olw) :: (wJ g ol_part 1 12 olp) :: []) sz)) 0 0 (va_A ((wO3 oc n sv oc_plan ow ol oc_reach oc_ringBits orc orn ose) :: (wO6 sv n co sv_keep sv_scaled) :: (wO0 co n eq co_place) :: (wO2 n n_nodes n_kind n_pay n_name n_ways n_held n_targets n_weights) :: (wI g n_kind 0 12 n_fkind) :: (wI g n_pay 0 12 n_fpay) :: (wI g n_ways 0 12 n_fways) :: (wI g n_held 0 12 n_fheld) :: (wI g n_targets 0 36 n_ftargets) :: (wI g n_weights 0 36 n_fweights) :: (wI g co_place 0 12 pcf) :: (wO1 eq eq_rows eq_right ew) :: (wJ g eq_right 1 8 fr) :: (wR g eq_rows 5 8 (fun i => if i < 8 then some (rr i) else none)) :: (wJ g (rr 0) 1 8 (ct 0)) :: (wJ g (rr 1) 1 8 (ct 1)) :: (wJ g (rr 2) 1 8 (ct 2)) :: (wJ g (rr 3) 1 8 (ct 3)) :: (wJ g (rr 4) 1 8 (ct 4)) :: (wJ g (rr 5) 1 8 (ct 5)) :: (wJ g (rr 6) 1 8 (ct 6)) :: (wJ g (rr 7) 1 8 (ct 7)) :: (wI g sv_keep 0 12 kpf) :: (wI g oc_plan 0 12 opf) :: (wI g oc_reach 0 12 orf) :: (wI g oc_ringBits 0 12 obf) :: (wO10 ow ow_part oww) :: (wJ g ow_part 1 12 owp) :: (wO10 ol ol_part olw) :: (wJ g ol_part 1 12 olp) :: []) sz) := by
  refine Met.ofW (cc := cX3_settle) (maxL := 3) (ret := none) (by decide) rfl ?_
  intro p e s m args below meth c s₁ B hml hv
  obtain ⟨ha, hsz, hP, hK, hD0⟩ := hv
  have hx := B.exec
  have hb := B.bytes
  have hr := B.returns
  have hts0 := atoms_spec (ws := (.code yX3_settle cX3_settle 3 none :: wsL_law)) B.pre
  have hts : ∀ w ∈ wsL_law, w.before args s = true := fun w h => hts0 w (List.mem_cons_of_mem _ h)
  have hown : s.vm.findClass RX3 = some m.cls := findClass_of_methodNamed B.named
  have hlocks := B.notSynchronized
  subst hsz
  have hD := hD0.self (sz := s.heap.size)
  generalize hAe : va_A ((wO3 oc n sv oc_plan ow ol oc_reach oc_ringBits orc orn ose) :: (wO6 sv n co sv_keep sv_scaled) :: (wO0 co n eq co_place) :: (wO2 n n_nodes n_kind n_pay n_name n_ways n_held n_targets n_weights) :: (wI g n_kind 0 12 n_fkind) :: (wI g n_pay 0 12 n_fpay) :: (wI g n_ways 0 12 n_fways) :: (wI g n_held 0 12 n_fheld) :: (wI g n_targets 0 36 n_ftargets) :: (wI g n_weights 0 36 n_fweights) :: (wI g co_place 0 12 pcf) :: (wO1 eq eq_rows eq_right ew) :: (wJ g eq_right 1 8 fr) :: (wR g eq_rows 5 8 (fun i => if i < 8 then some (rr i) else none)) :: (wJ g (rr 0) 1 8 (ct 0)) :: (wJ g (rr 1) 1 8 (ct 1)) :: (wJ g (rr 2) 1 8 (ct 2)) :: (wJ g (rr 3) 1 8 (ct 3)) :: (wJ g (rr 4) 1 8 (ct 4)) :: (wJ g (rr 5) 1 8 (ct 5)) :: (wJ g (rr 6) 1 8 (ct 6)) :: (wJ g (rr 7) 1 8 (ct 7)) :: (wI g sv_keep 0 12 kpf) :: (wI g oc_plan 0 12 opf) :: (wI g oc_reach 0 12 orf) :: (wI g oc_ringBits 0 12 obf) :: (wO10 ow ow_part oww) :: (wJ g ow_part 1 12 owp) :: (wO10 ol ol_part olw) :: (wJ g ol_part 1 12 olp) :: []) s.heap.size = A at hD ⊢
  have hA : ∀ q : Nat, s.heap.size ≤ q → A q := fun q h => by rw [← hAe]; exact Or.inr h
  have hS : va_S A s.heap s.heap [] := va_S.rf
  have hP : va_P D vwCl ((wO3 oc n sv oc_plan ow ol oc_reach oc_ringBits orc orn ose) :: (wO6 sv n co sv_keep sv_scaled) :: (wO0 co n eq co_place) :: (wO2 n n_nodes n_kind n_pay n_name n_ways n_held n_targets n_weights) :: (wI g n_kind 0 12 n_fkind) :: (wI g n_pay 0 12 n_fpay) :: (wI g n_ways 0 12 n_fways) :: (wI g n_held 0 12 n_fheld) :: (wI g n_targets 0 36 n_ftargets) :: (wI g n_weights 0 36 n_fweights) :: (wI g co_place 0 12 pcf) :: (wO1 eq eq_rows eq_right ew) :: (wJ g eq_right 1 8 fr) :: (wR g eq_rows 5 8 (fun i => if i < 8 then some (rr i) else none)) :: (wJ g (rr 0) 1 8 (ct 0)) :: (wJ g (rr 1) 1 8 (ct 1)) :: (wJ g (rr 2) 1 8 (ct 2)) :: (wJ g (rr 3) 1 8 (ct 3)) :: (wJ g (rr 4) 1 8 (ct 4)) :: (wJ g (rr 5) 1 8 (ct 5)) :: (wJ g (rr 6) 1 8 (ct 6)) :: (wJ g (rr 7) 1 8 (ct 7)) :: (wI g sv_keep 0 12 kpf) :: (wI g oc_plan 0 12 opf) :: (wI g oc_reach 0 12 orf) :: (wI g oc_ringBits 0 12 obf) :: (wO10 ow ow_part oww) :: (wJ g ow_part 1 12 owp) :: (wO10 ol ol_part olw) :: (wJ g ol_part 1 12 olp) :: []) s.heap := hP
  refine W.eq (g2 := entryFrame m ([.ref oc] : List Value).toArray 3) (by rw [ha]) ?_
  have hl := lv_entry ([.ref oc]) (n := 3) (Nat.le_of_ble_eq_true rfl)
  rw [lg_entry_eq]
  generalize (lg_sl ([.ref oc]) ++ List.replicate (3 - (lg_sl ([.ref oc])).length) Slot.unset).toArray = ls at hl ⊢
  have hl : lv_has ls 3 [(0, .ref oc)] := hl
  refine lv_aload_n hx hb dX3_settle_0 rfl (lv_at hl 0 rfl) ?_
  refine va_get (D := D) (ci := 3) (v := .int ose) (C := RX3) (T := TX3) (N := 10) hx hb hts inlX3 hown hK hP 0 rfl rfl 9 (by decide) (hts (Cond.fieldLink RX3 39 "ChanceRings$Outcome" "settled" "Z") qw_650) (fun _ h9 => h9) rfl dX3_settle_1 ?_
  refine lv_if_eq (tgt := 8) hx hb dX3_settle_4 (by decide) (fun c_91232 => ?_) (fun c_91232 => ?_)
  · skip
    have c_91232_i : (ose : Int32).toInt = (0 : Int32).toInt := congrArg Int32.toInt c_91232
    have h_91233 : 0 ≤ (ose : Int32).toInt ∧ (ose : Int32).toInt ≤ 0 := nr_eq_l h_ose (⟨by decide, by decide⟩ : 0 ≤ (0 : Int32).toInt ∧ (0 : Int32).toInt ≤ 0) c_91232_i (by decide) (by decide)
    refine lv_aload_n hx hb dX3_settle_8 rfl (lv_at hl 0 rfl) ?_
    refine va_get (D := D) (ci := 3) (v := .ref sv) (C := RX3) (T := TX3) (N := 10) hx hb hts inlX3 hown hK hP 0 rfl rfl 1 (by decide) (hts (Cond.fieldLink RX3 35 "ChanceRings$Outcome" "solver" "LChanceRings$Solver;") qw_622) (fun _ h9 => h9) rfl dX3_settle_9 ?_
    refine lv_aload_n hx hb dX3_settle_12 rfl (lv_at hl 0 rfl) ?_
    refine va_get (D := D) (ci := 3) (v := .ref oc_plan) (C := RX3) (T := TX3) (N := 10) hx hb hts inlX3 hown hK hP 0 rfl rfl 2 (by decide) (hts (Cond.fieldLink RX3 9 "ChanceRings$Outcome" "plan" "[I") qw_624) (fun _ h9 => h9) rfl dX3_settle_13 ?_
    have hPc := hP.sub (ws' := [(wO6 sv n co sv_keep sv_scaled), (wO2 n n_nodes n_kind n_pay n_name n_ways n_held n_targets n_weights), (wI g n_held 0 12 n_fheld), (wI g oc_plan 0 12 opf)]) [1, 3, 7, 23] rfl
    have hDc := hD.sub (ws' := [(wO6 sv n co sv_keep sv_scaled), (wO2 n n_nodes n_kind n_pay n_name n_ways n_held n_targets n_weights), (wI g n_held 0 12 n_fheld), (wI g oc_plan 0 12 opf)]) [1, 3, 7, 23] (by decide) rfl
    have hFc := va_free (wc := [(wO6 sv n co sv_keep sv_scaled), (wO2 n n_nodes n_kind n_pay n_name n_ways n_held n_targets n_weights), (wI g n_held 0 12 n_fheld), (wI g oc_plan 0 12 opf)]) hD hS hA [1, 3, 7, 23] rfl
    refine va_callv (va_runV (As := [.ref oc_plan]) (rest := []) ⟨hx, hb, hml, hown, hts⟩ (c_X6_firstWays l D g s.heap.size sv oc_plan n co sv_keep sv_scaled n_nodes n_kind n_pay n_name n_ways n_held n_targets n_weights n_fheld opf (tr_w h_n_nodes (by decide) (by decide)) (tr_wa h_n_fheld (by decide) (by decide)) (tr_wa h_opf (by decide) (by decide))) (cwV 1 hts (tz_gV qw_651 qw_652 qw_653 qw_538 qw_654) rfl rfl rfl (by decide +kernel) ⟨Nat.le_of_ble_eq_true rfl, Nat.le_of_ble_eq_true rfl⟩) ⟨tz_blQ, va_recv hK hPc (ci := 6) (q0 := 0) rfl rfl, tz_preQ hPc hK hDc⟩ rfl rfl hl.1 rfl (lv_room (Nat.le_of_ble_eq_true rfl)) dX3_settle_16 ⟨Nat.le_of_ble_eq_true rfl, Nat.le_of_ble_eq_true rfl⟩) hS (fun q _ h => hFc q h) hFc (fun u t H1 locs ht hvm hw hB hz1 hk1 hS => ?_)
    obtain ⟨opl_91236, hf_91237, hP1, hD1⟩ := hB
    rw [ht] at hP1
    obtain ⟨hP, hD⟩ := va_join (wr := [(wO3 oc n sv oc_plan ow ol oc_reach oc_ringBits orc orn ose), (wO0 co n eq co_place), (wI g n_kind 0 12 n_fkind), (wI g n_pay 0 12 n_fpay), (wI g n_ways 0 12 n_fways), (wI g n_targets 0 36 n_ftargets), (wI g n_weights 0 36 n_fweights), (wI g co_place 0 12 pcf), (wO1 eq eq_rows eq_right ew), (wJ g eq_right 1 8 fr), (wR g eq_rows 5 8 (fun i => if i < 8 then some (rr i) else none)), (wJ g (rr 0) 1 8 (ct 0)), (wJ g (rr 1) 1 8 (ct 1)), (wJ g (rr 2) 1 8 (ct 2)), (wJ g (rr 3) 1 8 (ct 3)), (wJ g (rr 4) 1 8 (ct 4)), (wJ g (rr 5) 1 8 (ct 5)), (wJ g (rr 6) 1 8 (ct 6)), (wJ g (rr 7) 1 8 (ct 7)), (wI g sv_keep 0 12 kpf), (wI g oc_reach 0 12 orf), (wI g oc_ringBits 0 12 obf), (wO10 ow ow_part oww), (wJ g ow_part 1 12 owp), (wO10 ol ol_part olw), (wJ g ol_part 1 12 olp)]) (w1 := [(wO6 sv n co sv_keep sv_scaled), (wO2 n n_nodes n_kind n_pay n_name n_ways n_held n_targets n_weights), (wI g n_held 0 12 n_fheld), (wI g oc_plan 0 12 opl_91236)]) hP hD [1, 3, 7, 23] [0, 2, 4, 5, 6, 8, 9, 10, 11, 12, 13, 14, 15, 16, 17, 18, 19, 20, 21, 22, 24, 25, 26, 27, 28, 29] rfl rfl (by decide) (by decide) hk1 hFc hP1 hD1
    generalize H1 = H at hP hS ⊢
    have hP : va_P D vwCl ((wO3 oc n sv oc_plan ow ol oc_reach oc_ringBits orc orn ose) :: (wO0 co n eq co_place) :: (wI g n_kind 0 12 n_fkind) :: (wI g n_pay 0 12 n_fpay) :: (wI g n_ways 0 12 n_fways) :: (wI g n_targets 0 36 n_ftargets) :: (wI g n_weights 0 36 n_fweights) :: (wI g co_place 0 12 pcf) :: (wO1 eq eq_rows eq_right ew) :: (wJ g eq_right 1 8 fr) :: (wR g eq_rows 5 8 (fun i => if i < 8 then some (rr i) else none)) :: (wJ g (rr 0) 1 8 (ct 0)) :: (wJ g (rr 1) 1 8 (ct 1)) :: (wJ g (rr 2) 1 8 (ct 2)) :: (wJ g (rr 3) 1 8 (ct 3)) :: (wJ g (rr 4) 1 8 (ct 4)) :: (wJ g (rr 5) 1 8 (ct 5)) :: (wJ g (rr 6) 1 8 (ct 6)) :: (wJ g (rr 7) 1 8 (ct 7)) :: (wI g sv_keep 0 12 kpf) :: (wI g oc_reach 0 12 orf) :: (wI g oc_ringBits 0 12 obf) :: (wO10 ow ow_part oww) :: (wJ g ow_part 1 12 owp) :: (wO10 ol ol_part olw) :: (wJ g ol_part 1 12 olp) :: (wO6 sv n co sv_keep sv_scaled) :: (wO2 n n_nodes n_kind n_pay n_name n_ways n_held n_targets n_weights) :: (wI g n_held 0 12 n_fheld) :: (wI g oc_plan 0 12 opl_91236) :: []) H := hP
    have hD : va_D A ((wO3 oc n sv oc_plan ow ol oc_reach oc_ringBits orc orn ose) :: (wO0 co n eq co_place) :: (wI g n_kind 0 12 n_fkind) :: (wI g n_pay 0 12 n_fpay) :: (wI g n_ways 0 12 n_fways) :: (wI g n_targets 0 36 n_ftargets) :: (wI g n_weights 0 36 n_fweights) :: (wI g co_place 0 12 pcf) :: (wO1 eq eq_rows eq_right ew) :: (wJ g eq_right 1 8 fr) :: (wR g eq_rows 5 8 (fun i => if i < 8 then some (rr i) else none)) :: (wJ g (rr 0) 1 8 (ct 0)) :: (wJ g (rr 1) 1 8 (ct 1)) :: (wJ g (rr 2) 1 8 (ct 2)) :: (wJ g (rr 3) 1 8 (ct 3)) :: (wJ g (rr 4) 1 8 (ct 4)) :: (wJ g (rr 5) 1 8 (ct 5)) :: (wJ g (rr 6) 1 8 (ct 6)) :: (wJ g (rr 7) 1 8 (ct 7)) :: (wI g sv_keep 0 12 kpf) :: (wI g oc_reach 0 12 orf) :: (wI g oc_ringBits 0 12 obf) :: (wO10 ow ow_part oww) :: (wJ g ow_part 1 12 owp) :: (wO10 ol ol_part olw) :: (wJ g ol_part 1 12 olp) :: (wO6 sv n co sv_keep sv_scaled) :: (wO2 n n_nodes n_kind n_pay n_name n_ways n_held n_targets n_weights) :: (wI g n_held 0 12 n_fheld) :: (wI g oc_plan 0 12 opl_91236) :: []) := hD
    refine lv_aload_n hx hb dX3_settle_19 rfl (lv_at hl 0 rfl) ?_
    refine va_get (D := D) (ci := 3) (v := .ref sv) (C := RX3) (T := TX3) (N := 10) hx hb hts inlX3 hown hK hP 0 rfl rfl 1 (by decide) (hts (Cond.fieldLink RX3 35 "ChanceRings$Outcome" "solver" "LChanceRings$Solver;") qw_622) (fun _ h9 => h9) rfl dX3_settle_20 ?_
    refine lv_aload_n hx hb dX3_settle_23 rfl (lv_at hl 0 rfl) ?_
    refine va_get (D := D) (ci := 3) (v := .ref oc_plan) (C := RX3) (T := TX3) (N := 10) hx hb hts inlX3 hown hK hP 0 rfl rfl 2 (by decide) (hts (Cond.fieldLink RX3 9 "ChanceRings$Outcome" "plan" "[I") qw_624) (fun _ h9 => h9) rfl dX3_settle_24 ?_
    refine lv_iconst (v := 1) hx hb dX3_settle_27 (by decide) ?_
    refine lv_iconst (v := 1) hx hb dX3_settle_28 (by decide) ?_
    refine lv_aload_n hx hb dX3_settle_29 rfl (lv_at hl 0 rfl) ?_
    refine va_get (D := D) (ci := 3) (v := .ref ow) (C := RX3) (T := TX3) (N := 10) hx hb hts inlX3 hown hK hP 0 rfl rfl 3 (by decide) (hts (Cond.fieldLink RX3 18 "ChanceRings$Outcome" "worth" "LChanceRings$Values;") qw_635) (fun _ h9 => h9) rfl dX3_settle_30 ?_
    have hPc := hP.sub (ws' := [(wO6 sv n co sv_keep sv_scaled), (wO0 co n eq co_place), (wO2 n n_nodes n_kind n_pay n_name n_ways n_held n_targets n_weights), (wI g n_kind 0 12 n_fkind), (wI g n_pay 0 12 n_fpay), (wI g n_ways 0 12 n_fways), (wI g n_held 0 12 n_fheld), (wI g n_targets 0 36 n_ftargets), (wI g n_weights 0 36 n_fweights), (wI g co_place 0 12 pcf), (wO1 eq eq_rows eq_right ew), (wJ g eq_right 1 8 fr), (wR g eq_rows 5 8 (fun i => if i < 8 then some (rr i) else none)), (wJ g (rr 0) 1 8 (ct 0)), (wJ g (rr 1) 1 8 (ct 1)), (wJ g (rr 2) 1 8 (ct 2)), (wJ g (rr 3) 1 8 (ct 3)), (wJ g (rr 4) 1 8 (ct 4)), (wJ g (rr 5) 1 8 (ct 5)), (wJ g (rr 6) 1 8 (ct 6)), (wJ g (rr 7) 1 8 (ct 7)), (wI g oc_plan 0 12 opl_91236), (wO10 ow ow_part oww), (wJ g ow_part 1 12 owp)]) [26, 1, 27, 2, 3, 4, 28, 5, 6, 7, 8, 9, 10, 11, 12, 13, 14, 15, 16, 17, 18, 29, 22, 23] rfl
    have hDc := hD.sub (ws' := [(wO6 sv n co sv_keep sv_scaled), (wO0 co n eq co_place), (wO2 n n_nodes n_kind n_pay n_name n_ways n_held n_targets n_weights), (wI g n_kind 0 12 n_fkind), (wI g n_pay 0 12 n_fpay), (wI g n_ways 0 12 n_fways), (wI g n_held 0 12 n_fheld), (wI g n_targets 0 36 n_ftargets), (wI g n_weights 0 36 n_fweights), (wI g co_place 0 12 pcf), (wO1 eq eq_rows eq_right ew), (wJ g eq_right 1 8 fr), (wR g eq_rows 5 8 (fun i => if i < 8 then some (rr i) else none)), (wJ g (rr 0) 1 8 (ct 0)), (wJ g (rr 1) 1 8 (ct 1)), (wJ g (rr 2) 1 8 (ct 2)), (wJ g (rr 3) 1 8 (ct 3)), (wJ g (rr 4) 1 8 (ct 4)), (wJ g (rr 5) 1 8 (ct 5)), (wJ g (rr 6) 1 8 (ct 6)), (wJ g (rr 7) 1 8 (ct 7)), (wI g oc_plan 0 12 opl_91236), (wO10 ow ow_part oww), (wJ g ow_part 1 12 owp)]) [26, 1, 27, 2, 3, 4, 28, 5, 6, 7, 8, 9, 10, 11, 12, 13, 14, 15, 16, 17, 18, 29, 22, 23] (by decide) rfl
    have hFc := va_free (wc := [(wO6 sv n co sv_keep sv_scaled), (wO0 co n eq co_place), (wO2 n n_nodes n_kind n_pay n_name n_ways n_held n_targets n_weights), (wI g n_kind 0 12 n_fkind), (wI g n_pay 0 12 n_fpay), (wI g n_ways 0 12 n_fways), (wI g n_held 0 12 n_fheld), (wI g n_targets 0 36 n_ftargets), (wI g n_weights 0 36 n_fweights), (wI g co_place 0 12 pcf), (wO1 eq eq_rows eq_right ew), (wJ g eq_right 1 8 fr), (wR g eq_rows 5 8 (fun i => if i < 8 then some (rr i) else none)), (wJ g (rr 0) 1 8 (ct 0)), (wJ g (rr 1) 1 8 (ct 1)), (wJ g (rr 2) 1 8 (ct 2)), (wJ g (rr 3) 1 8 (ct 3)), (wJ g (rr 4) 1 8 (ct 4)), (wJ g (rr 5) 1 8 (ct 5)), (wJ g (rr 6) 1 8 (ct 6)), (wJ g (rr 7) 1 8 (ct 7)), (wI g oc_plan 0 12 opl_91236), (wO10 ow ow_part oww), (wJ g ow_part 1 12 owp)]) hD hS hA [26, 1, 27, 2, 3, 4, 28, 5, 6, 7, 8, 9, 10, 11, 12, 13, 14, 15, 16, 17, 18, 29, 22, 23] rfl
    refine va_callv (va_runV (As := [.ref oc_plan, .int 1, .int 1, .ref ow]) (rest := []) ⟨hx, hb, hml, hown, hts⟩ (c_X6_findWorth l D g H.size sv oc_plan 1 1 ow n co sv_keep sv_scaled eq co_place n_nodes n_kind n_pay n_name n_ways n_held n_targets n_weights n_fkind n_fpay n_fways n_fheld n_ftargets n_fweights pcf eq_rows eq_right ew fr rr ct opl_91236 ow_part oww owp (tr_w h_n_nodes (by decide) (by decide)) (tr_wa h_n_fkind (by decide) (by decide)) (tr_wa h_n_fways (by decide) (by decide)) (tr_wa h_n_fheld (by decide) (by decide)) (tr_wa h_n_ftargets (by decide) (by decide)) (tr_wa h_pcf (by decide) (by decide)) (tr_wa hf_91237 (by decide) (by decide))) (cwV 4 hts (tz_gV qw_655 qw_656 qw_657 qw_538 qw_658) rfl rfl rfl (by decide +kernel) ⟨Nat.le_of_ble_eq_true rfl, Nat.le_of_ble_eq_true rfl⟩) ⟨tz_blQ, va_recv hK hPc (ci := 6) (q0 := 0) rfl rfl, tz_preQ hPc hK hDc⟩ rfl rfl hl.1 rfl (lv_room (Nat.le_of_ble_eq_true rfl)) dX3_settle_33 ⟨Nat.le_of_ble_eq_true rfl, Nat.le_of_ble_eq_true rfl⟩) hS (fun q _ h => hFc q h) hFc (fun u t H1 locs ht hvm hw hB hz1 hk1 hS => ?_)
    obtain ⟨opc_91239, oew_91240, ofr_91241, opl_91242, ovw_91243, ovp_91244, oct_91245, hf_91246, hf_91247, hP1, hD1⟩ := hB
    rw [ht] at hP1
    obtain ⟨hP, hD⟩ := va_join (wr := [(wO3 oc n sv oc_plan ow ol oc_reach oc_ringBits orc orn ose), (wI g sv_keep 0 12 kpf), (wI g oc_reach 0 12 orf), (wI g oc_ringBits 0 12 obf), (wO10 ol ol_part olw), (wJ g ol_part 1 12 olp)]) (w1 := [(wO6 sv n co sv_keep sv_scaled), (wO0 co n eq co_place), (wO2 n n_nodes n_kind n_pay n_name n_ways n_held n_targets n_weights), (wI g n_kind 0 12 n_fkind), (wI g n_pay 0 12 n_fpay), (wI g n_ways 0 12 n_fways), (wI g n_held 0 12 n_fheld), (wI g n_targets 0 36 n_ftargets), (wI g n_weights 0 36 n_fweights), (wI g co_place 0 12 opc_91239), (wO1 eq eq_rows eq_right oew_91240), (wJ g eq_right 1 8 ofr_91241), (wR g eq_rows 5 8 (fun i => if i < 8 then some (rr i) else none)), (wJ g (rr 0) 1 8 (oct_91245 0)), (wJ g (rr 1) 1 8 (oct_91245 1)), (wJ g (rr 2) 1 8 (oct_91245 2)), (wJ g (rr 3) 1 8 (oct_91245 3)), (wJ g (rr 4) 1 8 (oct_91245 4)), (wJ g (rr 5) 1 8 (oct_91245 5)), (wJ g (rr 6) 1 8 (oct_91245 6)), (wJ g (rr 7) 1 8 (oct_91245 7)), (wI g oc_plan 0 12 opl_91242), (wO10 ow ow_part ovw_91243), (wJ g ow_part 1 12 ovp_91244)]) hP hD [26, 1, 27, 2, 3, 4, 28, 5, 6, 7, 8, 9, 10, 11, 12, 13, 14, 15, 16, 17, 18, 29, 22, 23] [0, 19, 20, 21, 24, 25] rfl rfl (by decide) (by decide) hk1 hFc hP1 hD1
    generalize H1 = H at hP hS ⊢
    have hP : va_P D vwCl ((wO3 oc n sv oc_plan ow ol oc_reach oc_ringBits orc orn ose) :: (wI g sv_keep 0 12 kpf) :: (wI g oc_reach 0 12 orf) :: (wI g oc_ringBits 0 12 obf) :: (wO10 ol ol_part olw) :: (wJ g ol_part 1 12 olp) :: (wO6 sv n co sv_keep sv_scaled) :: (wO0 co n eq co_place) :: (wO2 n n_nodes n_kind n_pay n_name n_ways n_held n_targets n_weights) :: (wI g n_kind 0 12 n_fkind) :: (wI g n_pay 0 12 n_fpay) :: (wI g n_ways 0 12 n_fways) :: (wI g n_held 0 12 n_fheld) :: (wI g n_targets 0 36 n_ftargets) :: (wI g n_weights 0 36 n_fweights) :: (wI g co_place 0 12 opc_91239) :: (wO1 eq eq_rows eq_right oew_91240) :: (wJ g eq_right 1 8 ofr_91241) :: (wR g eq_rows 5 8 (fun i => if i < 8 then some (rr i) else none)) :: (wJ g (rr 0) 1 8 (oct_91245 0)) :: (wJ g (rr 1) 1 8 (oct_91245 1)) :: (wJ g (rr 2) 1 8 (oct_91245 2)) :: (wJ g (rr 3) 1 8 (oct_91245 3)) :: (wJ g (rr 4) 1 8 (oct_91245 4)) :: (wJ g (rr 5) 1 8 (oct_91245 5)) :: (wJ g (rr 6) 1 8 (oct_91245 6)) :: (wJ g (rr 7) 1 8 (oct_91245 7)) :: (wI g oc_plan 0 12 opl_91242) :: (wO10 ow ow_part ovw_91243) :: (wJ g ow_part 1 12 ovp_91244) :: []) H := hP
    have hD : va_D A ((wO3 oc n sv oc_plan ow ol oc_reach oc_ringBits orc orn ose) :: (wI g sv_keep 0 12 kpf) :: (wI g oc_reach 0 12 orf) :: (wI g oc_ringBits 0 12 obf) :: (wO10 ol ol_part olw) :: (wJ g ol_part 1 12 olp) :: (wO6 sv n co sv_keep sv_scaled) :: (wO0 co n eq co_place) :: (wO2 n n_nodes n_kind n_pay n_name n_ways n_held n_targets n_weights) :: (wI g n_kind 0 12 n_fkind) :: (wI g n_pay 0 12 n_fpay) :: (wI g n_ways 0 12 n_fways) :: (wI g n_held 0 12 n_fheld) :: (wI g n_targets 0 36 n_ftargets) :: (wI g n_weights 0 36 n_fweights) :: (wI g co_place 0 12 opc_91239) :: (wO1 eq eq_rows eq_right oew_91240) :: (wJ g eq_right 1 8 ofr_91241) :: (wR g eq_rows 5 8 (fun i => if i < 8 then some (rr i) else none)) :: (wJ g (rr 0) 1 8 (oct_91245 0)) :: (wJ g (rr 1) 1 8 (oct_91245 1)) :: (wJ g (rr 2) 1 8 (oct_91245 2)) :: (wJ g (rr 3) 1 8 (oct_91245 3)) :: (wJ g (rr 4) 1 8 (oct_91245 4)) :: (wJ g (rr 5) 1 8 (oct_91245 5)) :: (wJ g (rr 6) 1 8 (oct_91245 6)) :: (wJ g (rr 7) 1 8 (oct_91245 7)) :: (wI g oc_plan 0 12 opl_91242) :: (wO10 ow ow_part ovw_91243) :: (wJ g ow_part 1 12 ovp_91244) :: []) := hD
    refine lv_aload_n hx hb dX3_settle_36 rfl (lv_at hl 0 rfl) ?_
    refine va_get (D := D) (ci := 3) (v := .ref sv) (C := RX3) (T := TX3) (N := 10) hx hb hts inlX3 hown hK hP 0 rfl rfl 1 (by decide) (hts (Cond.fieldLink RX3 35 "ChanceRings$Outcome" "solver" "LChanceRings$Solver;") qw_622) (fun _ h9 => h9) rfl dX3_settle_37 ?_
    refine lv_aload_n hx hb dX3_settle_40 rfl (lv_at hl 0 rfl) ?_
    refine va_get (D := D) (ci := 3) (v := .ref ow) (C := RX3) (T := TX3) (N := 10) hx hb hts inlX3 hown hK hP 0 rfl rfl 3 (by decide) (hts (Cond.fieldLink RX3 18 "ChanceRings$Outcome" "worth" "LChanceRings$Values;") qw_635) (fun _ h9 => h9) rfl dX3_settle_41 ?_
    refine lv_aload_n hx hb dX3_settle_44 rfl (lv_at hl 0 rfl) ?_
    refine va_get (D := D) (ci := 3) (v := .ref oc_plan) (C := RX3) (T := TX3) (N := 10) hx hb hts inlX3 hown hK hP 0 rfl rfl 2 (by decide) (hts (Cond.fieldLink RX3 9 "ChanceRings$Outcome" "plan" "[I") qw_624) (fun _ h9 => h9) rfl dX3_settle_45 ?_
    have hPc := hP.sub (ws' := [(wO6 sv n co sv_keep sv_scaled), (wO2 n n_nodes n_kind n_pay n_name n_ways n_held n_targets n_weights), (wI g n_kind 0 12 n_fkind), (wI g n_pay 0 12 n_fpay), (wI g n_ways 0 12 n_fways), (wI g n_held 0 12 n_fheld), (wI g n_targets 0 36 n_ftargets), (wO10 ow ow_part ovw_91243), (wJ g ow_part 1 12 ovp_91244), (wI g sv_keep 0 12 kpf), (wI g oc_plan 0 12 opl_91242)]) [6, 8, 9, 10, 11, 12, 13, 28, 29, 1, 27] rfl
    have hDc := hD.sub (ws' := [(wO6 sv n co sv_keep sv_scaled), (wO2 n n_nodes n_kind n_pay n_name n_ways n_held n_targets n_weights), (wI g n_kind 0 12 n_fkind), (wI g n_pay 0 12 n_fpay), (wI g n_ways 0 12 n_fways), (wI g n_held 0 12 n_fheld), (wI g n_targets 0 36 n_ftargets), (wO10 ow ow_part ovw_91243), (wJ g ow_part 1 12 ovp_91244), (wI g sv_keep 0 12 kpf), (wI g oc_plan 0 12 opl_91242)]) [6, 8, 9, 10, 11, 12, 13, 28, 29, 1, 27] (by decide) rfl
    have hFc := va_free (wc := [(wO6 sv n co sv_keep sv_scaled), (wO2 n n_nodes n_kind n_pay n_name n_ways n_held n_targets n_weights), (wI g n_kind 0 12 n_fkind), (wI g n_pay 0 12 n_fpay), (wI g n_ways 0 12 n_fways), (wI g n_held 0 12 n_fheld), (wI g n_targets 0 36 n_ftargets), (wO10 ow ow_part ovw_91243), (wJ g ow_part 1 12 ovp_91244), (wI g sv_keep 0 12 kpf), (wI g oc_plan 0 12 opl_91242)]) hD hS hA [6, 8, 9, 10, 11, 12, 13, 28, 29, 1, 27] rfl
    refine va_callv (va_runV (As := [.ref ow, .ref oc_plan]) (rest := []) ⟨hx, hb, hml, hown, hts⟩ (c_X6_findBest l D g H.size sv ow oc_plan n co sv_keep sv_scaled n_nodes n_kind n_pay n_name n_ways n_held n_targets n_weights n_fkind n_fpay n_fways n_fheld n_ftargets ow_part ovw_91243 ovp_91244 kpf opl_91242 (tr_w h_n_nodes (by decide) (by decide)) (tr_wa h_n_fkind (by decide) (by decide)) (tr_wa h_n_fways (by decide) (by decide)) (tr_wa h_n_fheld (by decide) (by decide)) (tr_wa h_n_ftargets (by decide) (by decide)) (tr_wa hf_91247 (by decide) (by decide))) (cwV 2 hts (tz_gV qw_659 qw_660 qw_661 qw_538 qw_662) rfl rfl rfl (by decide +kernel) ⟨Nat.le_of_ble_eq_true rfl, Nat.le_of_ble_eq_true rfl⟩) ⟨tz_blQ, va_recv hK hPc (ci := 6) (q0 := 0) rfl rfl, tz_preQ hPc hK hDc⟩ rfl rfl hl.1 rfl (lv_room (Nat.le_of_ble_eq_true rfl)) dX3_settle_48 ⟨Nat.le_of_ble_eq_true rfl, Nat.le_of_ble_eq_true rfl⟩) hS (fun q _ h => hFc q h) hFc (fun u t H1 locs ht hvm hw hB hz1 hk1 hS => ?_)
    obtain ⟨okp_91249, opl_91250, hf_91251, hP1, hD1⟩ := hB
    rw [ht] at hP1
    obtain ⟨hP, hD⟩ := va_join (wr := [(wO3 oc n sv oc_plan ow ol oc_reach oc_ringBits orc orn ose), (wI g oc_reach 0 12 orf), (wI g oc_ringBits 0 12 obf), (wO10 ol ol_part olw), (wJ g ol_part 1 12 olp), (wO0 co n eq co_place), (wI g n_weights 0 36 n_fweights), (wI g co_place 0 12 opc_91239), (wO1 eq eq_rows eq_right oew_91240), (wJ g eq_right 1 8 ofr_91241), (wR g eq_rows 5 8 (fun i => if i < 8 then some (rr i) else none)), (wJ g (rr 0) 1 8 (oct_91245 0)), (wJ g (rr 1) 1 8 (oct_91245 1)), (wJ g (rr 2) 1 8 (oct_91245 2)), (wJ g (rr 3) 1 8 (oct_91245 3)), (wJ g (rr 4) 1 8 (oct_91245 4)), (wJ g (rr 5) 1 8 (oct_91245 5)), (wJ g (rr 6) 1 8 (oct_91245 6)), (wJ g (rr 7) 1 8 (oct_91245 7))]) (w1 := [(wO6 sv n co sv_keep sv_scaled), (wO2 n n_nodes n_kind n_pay n_name n_ways n_held n_targets n_weights), (wI g n_kind 0 12 n_fkind), (wI g n_pay 0 12 n_fpay), (wI g n_ways 0 12 n_fways), (wI g n_held 0 12 n_fheld), (wI g n_targets 0 36 n_ftargets), (wO10 ow ow_part ovw_91243), (wJ g ow_part 1 12 ovp_91244), (wI g sv_keep 0 12 okp_91249), (wI g oc_plan 0 12 opl_91250)]) hP hD [6, 8, 9, 10, 11, 12, 13, 28, 29, 1, 27] [0, 2, 3, 4, 5, 7, 14, 15, 16, 17, 18, 19, 20, 21, 22, 23, 24, 25, 26] rfl rfl (by decide) (by decide) hk1 hFc hP1 hD1
    generalize H1 = H at hP hS ⊢
    have hP : va_P D vwCl ((wO3 oc n sv oc_plan ow ol oc_reach oc_ringBits orc orn ose) :: (wI g oc_reach 0 12 orf) :: (wI g oc_ringBits 0 12 obf) :: (wO10 ol ol_part olw) :: (wJ g ol_part 1 12 olp) :: (wO0 co n eq co_place) :: (wI g n_weights 0 36 n_fweights) :: (wI g co_place 0 12 opc_91239) :: (wO1 eq eq_rows eq_right oew_91240) :: (wJ g eq_right 1 8 ofr_91241) :: (wR g eq_rows 5 8 (fun i => if i < 8 then some (rr i) else none)) :: (wJ g (rr 0) 1 8 (oct_91245 0)) :: (wJ g (rr 1) 1 8 (oct_91245 1)) :: (wJ g (rr 2) 1 8 (oct_91245 2)) :: (wJ g (rr 3) 1 8 (oct_91245 3)) :: (wJ g (rr 4) 1 8 (oct_91245 4)) :: (wJ g (rr 5) 1 8 (oct_91245 5)) :: (wJ g (rr 6) 1 8 (oct_91245 6)) :: (wJ g (rr 7) 1 8 (oct_91245 7)) :: (wO6 sv n co sv_keep sv_scaled) :: (wO2 n n_nodes n_kind n_pay n_name n_ways n_held n_targets n_weights) :: (wI g n_kind 0 12 n_fkind) :: (wI g n_pay 0 12 n_fpay) :: (wI g n_ways 0 12 n_fways) :: (wI g n_held 0 12 n_fheld) :: (wI g n_targets 0 36 n_ftargets) :: (wO10 ow ow_part ovw_91243) :: (wJ g ow_part 1 12 ovp_91244) :: (wI g sv_keep 0 12 okp_91249) :: (wI g oc_plan 0 12 opl_91250) :: []) H := hP
    have hD : va_D A ((wO3 oc n sv oc_plan ow ol oc_reach oc_ringBits orc orn ose) :: (wI g oc_reach 0 12 orf) :: (wI g oc_ringBits 0 12 obf) :: (wO10 ol ol_part olw) :: (wJ g ol_part 1 12 olp) :: (wO0 co n eq co_place) :: (wI g n_weights 0 36 n_fweights) :: (wI g co_place 0 12 opc_91239) :: (wO1 eq eq_rows eq_right oew_91240) :: (wJ g eq_right 1 8 ofr_91241) :: (wR g eq_rows 5 8 (fun i => if i < 8 then some (rr i) else none)) :: (wJ g (rr 0) 1 8 (oct_91245 0)) :: (wJ g (rr 1) 1 8 (oct_91245 1)) :: (wJ g (rr 2) 1 8 (oct_91245 2)) :: (wJ g (rr 3) 1 8 (oct_91245 3)) :: (wJ g (rr 4) 1 8 (oct_91245 4)) :: (wJ g (rr 5) 1 8 (oct_91245 5)) :: (wJ g (rr 6) 1 8 (oct_91245 6)) :: (wJ g (rr 7) 1 8 (oct_91245 7)) :: (wO6 sv n co sv_keep sv_scaled) :: (wO2 n n_nodes n_kind n_pay n_name n_ways n_held n_targets n_weights) :: (wI g n_kind 0 12 n_fkind) :: (wI g n_pay 0 12 n_fpay) :: (wI g n_ways 0 12 n_fways) :: (wI g n_held 0 12 n_fheld) :: (wI g n_targets 0 36 n_ftargets) :: (wO10 ow ow_part ovw_91243) :: (wJ g ow_part 1 12 ovp_91244) :: (wI g sv_keep 0 12 okp_91249) :: (wI g oc_plan 0 12 opl_91250) :: []) := hD
    refine lv_aload_n hx hb dX3_settle_51 rfl (lv_at hl 0 rfl) ?_
    have hPc := hP.sub (ws' := [(wO3 oc n sv oc_plan ow ol oc_reach oc_ringBits orc orn ose), (wO6 sv n co sv_keep sv_scaled), (wO0 co n eq co_place), (wO2 n n_nodes n_kind n_pay n_name n_ways n_held n_targets n_weights), (wI g n_kind 0 12 n_fkind), (wI g n_ways 0 12 n_fways), (wI g n_targets 0 36 n_ftargets), (wI g n_weights 0 36 n_fweights), (wI g oc_plan 0 12 opl_91250), (wI g oc_reach 0 12 orf)]) [0, 19, 5, 20, 21, 23, 25, 6, 29, 1] rfl
    have hDc := hD.sub (ws' := [(wO3 oc n sv oc_plan ow ol oc_reach oc_ringBits orc orn ose), (wO6 sv n co sv_keep sv_scaled), (wO0 co n eq co_place), (wO2 n n_nodes n_kind n_pay n_name n_ways n_held n_targets n_weights), (wI g n_kind 0 12 n_fkind), (wI g n_ways 0 12 n_fways), (wI g n_targets 0 36 n_ftargets), (wI g n_weights 0 36 n_fweights), (wI g oc_plan 0 12 opl_91250), (wI g oc_reach 0 12 orf)]) [0, 19, 5, 20, 21, 23, 25, 6, 29, 1] (by decide) rfl
    have hFc := va_free (wc := [(wO3 oc n sv oc_plan ow ol oc_reach oc_ringBits orc orn ose), (wO6 sv n co sv_keep sv_scaled), (wO0 co n eq co_place), (wO2 n n_nodes n_kind n_pay n_name n_ways n_held n_targets n_weights), (wI g n_kind 0 12 n_fkind), (wI g n_ways 0 12 n_fways), (wI g n_targets 0 36 n_ftargets), (wI g n_weights 0 36 n_fweights), (wI g oc_plan 0 12 opl_91250), (wI g oc_reach 0 12 orf)]) hD hS hA [0, 19, 5, 20, 21, 23, 25, 6, 29, 1] rfl
    refine va_callv (va_runV (As := []) (rest := []) ⟨hx, hb, hml, hown, hts⟩ (c_X3_findReach l D g H.size oc n sv oc_plan ow ol oc_reach oc_ringBits orc orn ose co sv_keep sv_scaled eq co_place n_nodes n_kind n_pay n_name n_ways n_held n_targets n_weights n_fkind n_fways n_ftargets n_fweights opl_91250 orf (tr_w h_orc (by decide) (by decide)) (tr_w h_91233 (by decide) (by decide)) (tr_w h_n_nodes (by decide) (by decide)) (tr_wa h_n_fkind (by decide) (by decide)) (tr_wa h_n_fways (by decide) (by decide)) (tr_wa h_n_ftargets (by decide) (by decide)) (tr_wa hf_91251 (by decide) (by decide))) (cwV 0 hts (tz_gV qw_663 qw_664 qw_665 qw_632 qw_666) rfl rfl rfl (by decide +kernel) ⟨Nat.le_of_ble_eq_true rfl, Nat.le_of_ble_eq_true rfl⟩) ⟨tz_blQ, va_recv hK hPc (ci := 3) (q0 := 0) rfl rfl, tz_preQ hPc hK hDc⟩ rfl rfl hl.1 rfl (lv_room (Nat.le_of_ble_eq_true rfl)) dX3_settle_52 ⟨Nat.le_of_ble_eq_true rfl, Nat.le_of_ble_eq_true rfl⟩) hS (fun q _ h => hFc q h) hFc (fun u t H1 locs ht hvm hw hB hz1 hk1 hS => ?_)
    obtain ⟨xrf_91253, hP1, hD1⟩ := hB
    rw [ht] at hP1
    obtain ⟨hP, hD⟩ := va_join (wr := [(wI g oc_ringBits 0 12 obf), (wO10 ol ol_part olw), (wJ g ol_part 1 12 olp), (wI g co_place 0 12 opc_91239), (wO1 eq eq_rows eq_right oew_91240), (wJ g eq_right 1 8 ofr_91241), (wR g eq_rows 5 8 (fun i => if i < 8 then some (rr i) else none)), (wJ g (rr 0) 1 8 (oct_91245 0)), (wJ g (rr 1) 1 8 (oct_91245 1)), (wJ g (rr 2) 1 8 (oct_91245 2)), (wJ g (rr 3) 1 8 (oct_91245 3)), (wJ g (rr 4) 1 8 (oct_91245 4)), (wJ g (rr 5) 1 8 (oct_91245 5)), (wJ g (rr 6) 1 8 (oct_91245 6)), (wJ g (rr 7) 1 8 (oct_91245 7)), (wI g n_pay 0 12 n_fpay), (wI g n_held 0 12 n_fheld), (wO10 ow ow_part ovw_91243), (wJ g ow_part 1 12 ovp_91244), (wI g sv_keep 0 12 okp_91249)]) (w1 := [(wO3 oc n sv oc_plan ow ol oc_reach oc_ringBits orc orn ose), (wO6 sv n co sv_keep sv_scaled), (wO0 co n eq co_place), (wO2 n n_nodes n_kind n_pay n_name n_ways n_held n_targets n_weights), (wI g n_kind 0 12 n_fkind), (wI g n_ways 0 12 n_fways), (wI g n_targets 0 36 n_ftargets), (wI g n_weights 0 36 n_fweights), (wI g oc_plan 0 12 opl_91250), (wI g oc_reach 0 12 xrf_91253)]) hP hD [0, 19, 5, 20, 21, 23, 25, 6, 29, 1] [2, 3, 4, 7, 8, 9, 10, 11, 12, 13, 14, 15, 16, 17, 18, 22, 24, 26, 27, 28] rfl rfl (by decide) (by decide) hk1 hFc hP1 hD1
    generalize H1 = H at hP hS ⊢
    have hP : va_P D vwCl ((wI g oc_ringBits 0 12 obf) :: (wO10 ol ol_part olw) :: (wJ g ol_part 1 12 olp) :: (wI g co_place 0 12 opc_91239) :: (wO1 eq eq_rows eq_right oew_91240) :: (wJ g eq_right 1 8 ofr_91241) :: (wR g eq_rows 5 8 (fun i => if i < 8 then some (rr i) else none)) :: (wJ g (rr 0) 1 8 (oct_91245 0)) :: (wJ g (rr 1) 1 8 (oct_91245 1)) :: (wJ g (rr 2) 1 8 (oct_91245 2)) :: (wJ g (rr 3) 1 8 (oct_91245 3)) :: (wJ g (rr 4) 1 8 (oct_91245 4)) :: (wJ g (rr 5) 1 8 (oct_91245 5)) :: (wJ g (rr 6) 1 8 (oct_91245 6)) :: (wJ g (rr 7) 1 8 (oct_91245 7)) :: (wI g n_pay 0 12 n_fpay) :: (wI g n_held 0 12 n_fheld) :: (wO10 ow ow_part ovw_91243) :: (wJ g ow_part 1 12 ovp_91244) :: (wI g sv_keep 0 12 okp_91249) :: (wO3 oc n sv oc_plan ow ol oc_reach oc_ringBits orc orn ose) :: (wO6 sv n co sv_keep sv_scaled) :: (wO0 co n eq co_place) :: (wO2 n n_nodes n_kind n_pay n_name n_ways n_held n_targets n_weights) :: (wI g n_kind 0 12 n_fkind) :: (wI g n_ways 0 12 n_fways) :: (wI g n_targets 0 36 n_ftargets) :: (wI g n_weights 0 36 n_fweights) :: (wI g oc_plan 0 12 opl_91250) :: (wI g oc_reach 0 12 xrf_91253) :: []) H := hP
    have hD : va_D A ((wI g oc_ringBits 0 12 obf) :: (wO10 ol ol_part olw) :: (wJ g ol_part 1 12 olp) :: (wI g co_place 0 12 opc_91239) :: (wO1 eq eq_rows eq_right oew_91240) :: (wJ g eq_right 1 8 ofr_91241) :: (wR g eq_rows 5 8 (fun i => if i < 8 then some (rr i) else none)) :: (wJ g (rr 0) 1 8 (oct_91245 0)) :: (wJ g (rr 1) 1 8 (oct_91245 1)) :: (wJ g (rr 2) 1 8 (oct_91245 2)) :: (wJ g (rr 3) 1 8 (oct_91245 3)) :: (wJ g (rr 4) 1 8 (oct_91245 4)) :: (wJ g (rr 5) 1 8 (oct_91245 5)) :: (wJ g (rr 6) 1 8 (oct_91245 6)) :: (wJ g (rr 7) 1 8 (oct_91245 7)) :: (wI g n_pay 0 12 n_fpay) :: (wI g n_held 0 12 n_fheld) :: (wO10 ow ow_part ovw_91243) :: (wJ g ow_part 1 12 ovp_91244) :: (wI g sv_keep 0 12 okp_91249) :: (wO3 oc n sv oc_plan ow ol oc_reach oc_ringBits orc orn ose) :: (wO6 sv n co sv_keep sv_scaled) :: (wO0 co n eq co_place) :: (wO2 n n_nodes n_kind n_pay n_name n_ways n_held n_targets n_weights) :: (wI g n_kind 0 12 n_fkind) :: (wI g n_ways 0 12 n_fways) :: (wI g n_targets 0 36 n_ftargets) :: (wI g n_weights 0 36 n_fweights) :: (wI g oc_plan 0 12 opl_91250) :: (wI g oc_reach 0 12 xrf_91253) :: []) := hD
    refine lv_aload_n hx hb dX3_settle_55 rfl (lv_at hl 0 rfl) ?_
    have hPc := hP.sub (ws' := [(wO3 oc n sv oc_plan ow ol oc_reach oc_ringBits orc orn ose), (wO2 n n_nodes n_kind n_pay n_name n_ways n_held n_targets n_weights), (wI g n_kind 0 12 n_fkind), (wI g oc_reach 0 12 xrf_91253), (wI g oc_ringBits 0 12 obf)]) [20, 23, 24, 29, 0] rfl
    have hDc := hD.sub (ws' := [(wO3 oc n sv oc_plan ow ol oc_reach oc_ringBits orc orn ose), (wO2 n n_nodes n_kind n_pay n_name n_ways n_held n_targets n_weights), (wI g n_kind 0 12 n_fkind), (wI g oc_reach 0 12 xrf_91253), (wI g oc_ringBits 0 12 obf)]) [20, 23, 24, 29, 0] (by decide) rfl
    have hFc := va_free (wc := [(wO3 oc n sv oc_plan ow ol oc_reach oc_ringBits orc orn ose), (wO2 n n_nodes n_kind n_pay n_name n_ways n_held n_targets n_weights), (wI g n_kind 0 12 n_fkind), (wI g oc_reach 0 12 xrf_91253), (wI g oc_ringBits 0 12 obf)]) hD hS hA [20, 23, 24, 29, 0] rfl
    refine va_callv (va_runV (As := []) (rest := []) ⟨hx, hb, hml, hown, hts⟩ (c_X3_findRings l D g H.size oc n sv oc_plan ow ol oc_reach oc_ringBits orc orn ose n_nodes n_kind n_pay n_name n_ways n_held n_targets n_weights n_fkind xrf_91253 obf (tr_w h_orc (by decide) (by decide)) (tr_w h_91233 (by decide) (by decide)) (tr_w h_n_nodes (by decide) (by decide)) (tr_wa h_n_fkind (by decide) (by decide))) (cwV 0 hts (tz_gV qw_667 qw_668 qw_669 qw_632 qw_670) rfl rfl rfl (by decide +kernel) ⟨Nat.le_of_ble_eq_true rfl, Nat.le_of_ble_eq_true rfl⟩) ⟨tz_blQ, va_recv hK hPc (ci := 3) (q0 := 0) rfl rfl, tz_preQ hPc hK hDc⟩ rfl rfl hl.1 rfl (lv_room (Nat.le_of_ble_eq_true rfl)) dX3_settle_56 ⟨Nat.le_of_ble_eq_true rfl, Nat.le_of_ble_eq_true rfl⟩) hS (fun q _ h => hFc q h) hFc (fun u t H1 locs ht hvm hw hB hz1 hk1 hS => ?_)
    obtain ⟨xrc_91255, xrn_91256, xbf_91257, hf_91258, hP1, hD1⟩ := hB
    rw [ht] at hP1
    obtain ⟨hP, hD⟩ := va_join (wr := [(wO10 ol ol_part olw), (wJ g ol_part 1 12 olp), (wI g co_place 0 12 opc_91239), (wO1 eq eq_rows eq_right oew_91240), (wJ g eq_right 1 8 ofr_91241), (wR g eq_rows 5 8 (fun i => if i < 8 then some (rr i) else none)), (wJ g (rr 0) 1 8 (oct_91245 0)), (wJ g (rr 1) 1 8 (oct_91245 1)), (wJ g (rr 2) 1 8 (oct_91245 2)), (wJ g (rr 3) 1 8 (oct_91245 3)), (wJ g (rr 4) 1 8 (oct_91245 4)), (wJ g (rr 5) 1 8 (oct_91245 5)), (wJ g (rr 6) 1 8 (oct_91245 6)), (wJ g (rr 7) 1 8 (oct_91245 7)), (wI g n_pay 0 12 n_fpay), (wI g n_held 0 12 n_fheld), (wO10 ow ow_part ovw_91243), (wJ g ow_part 1 12 ovp_91244), (wI g sv_keep 0 12 okp_91249), (wO6 sv n co sv_keep sv_scaled), (wO0 co n eq co_place), (wI g n_ways 0 12 n_fways), (wI g n_targets 0 36 n_ftargets), (wI g n_weights 0 36 n_fweights), (wI g oc_plan 0 12 opl_91250)]) (w1 := [(wO3 oc n sv oc_plan ow ol oc_reach oc_ringBits xrc_91255 xrn_91256 ose), (wO2 n n_nodes n_kind n_pay n_name n_ways n_held n_targets n_weights), (wI g n_kind 0 12 n_fkind), (wI g oc_reach 0 12 xrf_91253), (wI g oc_ringBits 0 12 xbf_91257)]) hP hD [20, 23, 24, 29, 0] [1, 2, 3, 4, 5, 6, 7, 8, 9, 10, 11, 12, 13, 14, 15, 16, 17, 18, 19, 21, 22, 25, 26, 27, 28] rfl rfl (by decide) (by decide) hk1 hFc hP1 hD1
    generalize H1 = H at hP hS ⊢
    have hP : va_P D vwCl ((wO10 ol ol_part olw) :: (wJ g ol_part 1 12 olp) :: (wI g co_place 0 12 opc_91239) :: (wO1 eq eq_rows eq_right oew_91240) :: (wJ g eq_right 1 8 ofr_91241) :: (wR g eq_rows 5 8 (fun i => if i < 8 then some (rr i) else none)) :: (wJ g (rr 0) 1 8 (oct_91245 0)) :: (wJ g (rr 1) 1 8 (oct_91245 1)) :: (wJ g (rr 2) 1 8 (oct_91245 2)) :: (wJ g (rr 3) 1 8 (oct_91245 3)) :: (wJ g (rr 4) 1 8 (oct_91245 4)) :: (wJ g (rr 5) 1 8 (oct_91245 5)) :: (wJ g (rr 6) 1 8 (oct_91245 6)) :: (wJ g (rr 7) 1 8 (oct_91245 7)) :: (wI g n_pay 0 12 n_fpay) :: (wI g n_held 0 12 n_fheld) :: (wO10 ow ow_part ovw_91243) :: (wJ g ow_part 1 12 ovp_91244) :: (wI g sv_keep 0 12 okp_91249) :: (wO6 sv n co sv_keep sv_scaled) :: (wO0 co n eq co_place) :: (wI g n_ways 0 12 n_fways) :: (wI g n_targets 0 36 n_ftargets) :: (wI g n_weights 0 36 n_fweights) :: (wI g oc_plan 0 12 opl_91250) :: (wO3 oc n sv oc_plan ow ol oc_reach oc_ringBits xrc_91255 xrn_91256 ose) :: (wO2 n n_nodes n_kind n_pay n_name n_ways n_held n_targets n_weights) :: (wI g n_kind 0 12 n_fkind) :: (wI g oc_reach 0 12 xrf_91253) :: (wI g oc_ringBits 0 12 xbf_91257) :: []) H := hP
    have hD : va_D A ((wO10 ol ol_part olw) :: (wJ g ol_part 1 12 olp) :: (wI g co_place 0 12 opc_91239) :: (wO1 eq eq_rows eq_right oew_91240) :: (wJ g eq_right 1 8 ofr_91241) :: (wR g eq_rows 5 8 (fun i => if i < 8 then some (rr i) else none)) :: (wJ g (rr 0) 1 8 (oct_91245 0)) :: (wJ g (rr 1) 1 8 (oct_91245 1)) :: (wJ g (rr 2) 1 8 (oct_91245 2)) :: (wJ g (rr 3) 1 8 (oct_91245 3)) :: (wJ g (rr 4) 1 8 (oct_91245 4)) :: (wJ g (rr 5) 1 8 (oct_91245 5)) :: (wJ g (rr 6) 1 8 (oct_91245 6)) :: (wJ g (rr 7) 1 8 (oct_91245 7)) :: (wI g n_pay 0 12 n_fpay) :: (wI g n_held 0 12 n_fheld) :: (wO10 ow ow_part ovw_91243) :: (wJ g ow_part 1 12 ovp_91244) :: (wI g sv_keep 0 12 okp_91249) :: (wO6 sv n co sv_keep sv_scaled) :: (wO0 co n eq co_place) :: (wI g n_ways 0 12 n_fways) :: (wI g n_targets 0 36 n_ftargets) :: (wI g n_weights 0 36 n_fweights) :: (wI g oc_plan 0 12 opl_91250) :: (wO3 oc n sv oc_plan ow ol oc_reach oc_ringBits xrc_91255 xrn_91256 ose) :: (wO2 n n_nodes n_kind n_pay n_name n_ways n_held n_targets n_weights) :: (wI g n_kind 0 12 n_fkind) :: (wI g oc_reach 0 12 xrf_91253) :: (wI g oc_ringBits 0 12 xbf_91257) :: []) := hD
    refine lv_iconst (v := 0) hx hb dX3_settle_59 (by decide) ?_
    refine lv_istore_n (lv' := [(1, .int 0), (0, .ref oc)]) hx hb dX3_settle_60 rfl hl (by decide) rfl (fun ls hl => ?_)
    refine lv_iconst (v := 0) hx hb dX3_settle_61 (by decide) ?_
    refine lv_istore_n (lv' := [(2, .int 0), (1, .int 0), (0, .ref oc)]) hx hb dX3_settle_62 rfl hl (by decide) rfl (fun ls hl => ?_)
    have lp_91431 : ∀ (n_91431 : Nat) (x_91429 : Int32) (x_91430 : Int32) (H : Heap) (locs : List Loc) (ls : Array Slot), (0 ≤ (x_91429 : Int32).toInt ∧ (x_91429 : Int32).toInt ≤ 12) → (12 - x_91429.toInt < (n_91431 : Int)) → va_P D vwCl ((wO10 ol ol_part olw) :: (wJ g ol_part 1 12 olp) :: (wI g co_place 0 12 opc_91239) :: (wO1 eq eq_rows eq_right oew_91240) :: (wJ g eq_right 1 8 ofr_91241) :: (wR g eq_rows 5 8 (fun i => if i < 8 then some (rr i) else none)) :: (wJ g (rr 0) 1 8 (oct_91245 0)) :: (wJ g (rr 1) 1 8 (oct_91245 1)) :: (wJ g (rr 2) 1 8 (oct_91245 2)) :: (wJ g (rr 3) 1 8 (oct_91245 3)) :: (wJ g (rr 4) 1 8 (oct_91245 4)) :: (wJ g (rr 5) 1 8 (oct_91245 5)) :: (wJ g (rr 6) 1 8 (oct_91245 6)) :: (wJ g (rr 7) 1 8 (oct_91245 7)) :: (wI g n_pay 0 12 n_fpay) :: (wI g n_held 0 12 n_fheld) :: (wO10 ow ow_part ovw_91243) :: (wJ g ow_part 1 12 ovp_91244) :: (wI g sv_keep 0 12 okp_91249) :: (wO6 sv n co sv_keep sv_scaled) :: (wO0 co n eq co_place) :: (wI g n_ways 0 12 n_fways) :: (wI g n_targets 0 36 n_ftargets) :: (wI g n_weights 0 36 n_fweights) :: (wI g oc_plan 0 12 opl_91250) :: (wO3 oc n sv oc_plan ow ol oc_reach oc_ringBits xrc_91255 xrn_91256 ose) :: (wO2 n n_nodes n_kind n_pay n_name n_ways n_held n_targets n_weights) :: (wI g n_kind 0 12 n_fkind) :: (wI g oc_reach 0 12 xrf_91253) :: (wI g oc_ringBits 0 12 xbf_91257) :: []) H → va_D A ((wO10 ol ol_part olw) :: (wJ g ol_part 1 12 olp) :: (wI g co_place 0 12 opc_91239) :: (wO1 eq eq_rows eq_right oew_91240) :: (wJ g eq_right 1 8 ofr_91241) :: (wR g eq_rows 5 8 (fun i => if i < 8 then some (rr i) else none)) :: (wJ g (rr 0) 1 8 (oct_91245 0)) :: (wJ g (rr 1) 1 8 (oct_91245 1)) :: (wJ g (rr 2) 1 8 (oct_91245 2)) :: (wJ g (rr 3) 1 8 (oct_91245 3)) :: (wJ g (rr 4) 1 8 (oct_91245 4)) :: (wJ g (rr 5) 1 8 (oct_91245 5)) :: (wJ g (rr 6) 1 8 (oct_91245 6)) :: (wJ g (rr 7) 1 8 (oct_91245 7)) :: (wI g n_pay 0 12 n_fpay) :: (wI g n_held 0 12 n_fheld) :: (wO10 ow ow_part ovw_91243) :: (wJ g ow_part 1 12 ovp_91244) :: (wI g sv_keep 0 12 okp_91249) :: (wO6 sv n co sv_keep sv_scaled) :: (wO0 co n eq co_place) :: (wI g n_ways 0 12 n_fways) :: (wI g n_targets 0 36 n_ftargets) :: (wI g n_weights 0 36 n_fweights) :: (wI g oc_plan 0 12 opl_91250) :: (wO3 oc n sv oc_plan ow ol oc_reach oc_ringBits xrc_91255 xrn_91256 ose) :: (wO2 n n_nodes n_kind n_pay n_name n_ways n_held n_targets n_weights) :: (wI g n_kind 0 12 n_fkind) :: (wI g oc_reach 0 12 xrf_91253) :: (wI g oc_ringBits 0 12 xbf_91257) :: []) → va_S A s.heap H locs → lv_has ls 3 [(2, .int x_91429), (1, .int x_91430), (0, .ref oc)] → W p l e (headSpec (.code yX3_settle cX3_settle 3 none :: wsL_law) ({ frames := 6, cells := 0, slots := 0, locals := 158 })).room s m args below meth c H locs 0 0 (MQ below (va_Qv (fun (_ : Unit) => True) (fun _ t => ∃ xrc : Int32, ∃ xrn : Int32, ∃ xse : Int32, ∃ opc : Nat → Int32, ∃ oew : Int64, ∃ ofr : Nat → Int64, ∃ okp : Nat → Int32, ∃ xpf : Nat → Int32, ∃ xrf : Nat → Int32, ∃ xbf : Nat → Int32, ∃ xow : Int64, ∃ xowp : Nat → Int64, ∃ xol : Int64, ∃ xolp : Nat → Int64, ∃ oct : Nat → Nat → Int64, (0 ≤ (xrc : Int32).toInt ∧ (xrc : Int32).toInt ≤ 12) ∧ (0 ≤ (xse : Int32).toInt ∧ (xse : Int32).toInt ≤ 1) ∧ (∀ j : Nat, (-1) ≤ (opc j).toInt ∧ (opc j).toInt ≤ 7) ∧ (∀ j : Nat, 0 ≤ (xpf j).toInt ∧ (xpf j).toInt ≤ 2) ∧ va_P D vwCl ((wO3 oc n sv oc_plan ow ol oc_reach oc_ringBits xrc xrn xse) :: (wO6 sv n co sv_keep sv_scaled) :: (wO0 co n eq co_place) :: (wO2 n n_nodes n_kind n_pay n_name n_ways n_held n_targets n_weights) :: (wI g n_kind 0 12 n_fkind) :: (wI g n_pay 0 12 n_fpay) :: (wI g n_ways 0 12 n_fways) :: (wI g n_held 0 12 n_fheld) :: (wI g n_targets 0 36 n_ftargets) :: (wI g n_weights 0 36 n_fweights) :: (wI g co_place 0 12 opc) :: (wO1 eq eq_rows eq_right oew) :: (wJ g eq_right 1 8 ofr) :: (wR g eq_rows 5 8 (fun i => if i < 8 then some (rr i) else none)) :: (wJ g (rr 0) 1 8 (oct 0)) :: (wJ g (rr 1) 1 8 (oct 1)) :: (wJ g (rr 2) 1 8 (oct 2)) :: (wJ g (rr 3) 1 8 (oct 3)) :: (wJ g (rr 4) 1 8 (oct 4)) :: (wJ g (rr 5) 1 8 (oct 5)) :: (wJ g (rr 6) 1 8 (oct 6)) :: (wJ g (rr 7) 1 8 (oct 7)) :: (wI g sv_keep 0 12 okp) :: (wI g oc_plan 0 12 xpf) :: (wI g oc_reach 0 12 xrf) :: (wI g oc_ringBits 0 12 xbf) :: (wO10 ow ow_part xow) :: (wJ g ow_part 1 12 xowp) :: (wO10 ol ol_part xol) :: (wJ g ol_part 1 12 xolp) :: []) t.heap ∧ va_D A ((wO3 oc n sv oc_plan ow ol oc_reach oc_ringBits xrc xrn xse) :: (wO6 sv n co sv_keep sv_scaled) :: (wO0 co n eq co_place) :: (wO2 n n_nodes n_kind n_pay n_name n_ways n_held n_targets n_weights) :: (wI g n_kind 0 12 n_fkind) :: (wI g n_pay 0 12 n_fpay) :: (wI g n_ways 0 12 n_fways) :: (wI g n_held 0 12 n_fheld) :: (wI g n_targets 0 36 n_ftargets) :: (wI g n_weights 0 36 n_fweights) :: (wI g co_place 0 12 opc) :: (wO1 eq eq_rows eq_right oew) :: (wJ g eq_right 1 8 ofr) :: (wR g eq_rows 5 8 (fun i => if i < 8 then some (rr i) else none)) :: (wJ g (rr 0) 1 8 (oct 0)) :: (wJ g (rr 1) 1 8 (oct 1)) :: (wJ g (rr 2) 1 8 (oct 2)) :: (wJ g (rr 3) 1 8 (oct 3)) :: (wJ g (rr 4) 1 8 (oct 4)) :: (wJ g (rr 5) 1 8 (oct 5)) :: (wJ g (rr 6) 1 8 (oct 6)) :: (wJ g (rr 7) 1 8 (oct 7)) :: (wI g sv_keep 0 12 okp) :: (wI g oc_plan 0 12 xpf) :: (wI g oc_reach 0 12 xrf) :: (wI g oc_ringBits 0 12 xbf) :: (wO10 ow ow_part xow) :: (wJ g ow_part 1 12 xowp) :: (wO10 ol ol_part xol) :: (wJ g ol_part 1 12 xolp) :: [])) A) args s 0 0 A) (F0 m 63 ls []) := by
      intro n_91431
      induction n_91431 with
      | zero =>
        intro x_91429 x_91430 H locs ls h_x_91429 hm_91431 hP hD hS hl
        exfalso; omega
      | succ n_91431 ih_91431 =>
        intro x_91429 x_91430 H locs ls h_x_91429 hm_91431 hP hD hS hl
        refine lv_iload_n hx hb dX3_settle_63 rfl (lv_at hl 0 rfl) ?_
        refine lv_aload_n hx hb dX3_settle_64 rfl (lv_at hl 2 rfl) ?_
        refine va_get (D := D) (ci := 3) (v := .ref n) (C := RX3) (T := TX3) (N := 10) hx hb hts inlX3 hown hK hP 25 rfl rfl 0 (by decide) (hts (Cond.fieldLink RX3 31 "ChanceRings$Outcome" "net" "LChanceRings$Net;") qw_619) (fun _ h9 => h9) rfl dX3_settle_65 ?_
        refine va_get (D := D) (ci := 2) (v := .int n_nodes) (C := RX2) (T := TX2) (N := 8) hx hb hts inlX2 hown hK hP 26 rfl rfl 0 (by decide) (hts (Cond.fieldLink RX3 63 "ChanceRings$Net" "nodes" "I") qw_620) (fun _ h9 => h9) rfl dX3_settle_68 ?_
        refine lv_icmp_ge (tgt := 94) hx hb dX3_settle_71 (by decide) (fun c_91432 => ?_) (fun c_91432 => ?_)
        · skip
          refine lv_aload_n hx hb dX3_settle_94 rfl (lv_at hl 2 rfl) ?_
          refine va_get (D := D) (ci := 3) (v := .ref sv) (C := RX3) (T := TX3) (N := 10) hx hb hts inlX3 hown hK hP 25 rfl rfl 1 (by decide) (hts (Cond.fieldLink RX3 35 "ChanceRings$Outcome" "solver" "LChanceRings$Solver;") qw_622) (fun _ h9 => h9) rfl dX3_settle_95 ?_
          refine va_get (D := D) (ci := 6) (v := .ref co) (C := RX6) (T := TX6) (N := 4) hx hb hts inlX6 hown hK hP 19 rfl rfl 1 (by decide) (hts (Cond.fieldLink RX3 73 "ChanceRings$Solver" "course" "LChanceRings$Course;") qw_623) (fun _ h9 => h9) rfl dX3_settle_98 ?_
          refine lv_aload_n hx hb dX3_settle_101 rfl (lv_at hl 2 rfl) ?_
          refine va_get (D := D) (ci := 3) (v := .ref oc_plan) (C := RX3) (T := TX3) (N := 10) hx hb hts inlX3 hown hK hP 25 rfl rfl 2 (by decide) (hts (Cond.fieldLink RX3 9 "ChanceRings$Outcome" "plan" "[I") qw_624) (fun _ h9 => h9) rfl dX3_settle_102 ?_
          refine lv_iload_n hx hb dX3_settle_105 rfl (lv_at hl 1 rfl) ?_
          refine lv_aload_n hx hb dX3_settle_106 rfl (lv_at hl 2 rfl) ?_
          refine va_get (D := D) (ci := 3) (v := .ref ol) (C := RX3) (T := TX3) (N := 10) hx hb hts inlX3 hown hK hP 25 rfl rfl 4 (by decide) (hts (Cond.fieldLink RX3 22 "ChanceRings$Outcome" "length" "LChanceRings$Values;") qw_671) (fun _ h9 => h9) rfl dX3_settle_107 ?_
          have hPc := hP.sub (ws' := [(wO0 co n eq co_place), (wO2 n n_nodes n_kind n_pay n_name n_ways n_held n_targets n_weights), (wI g n_kind 0 12 n_fkind), (wI g n_pay 0 12 n_fpay), (wI g n_ways 0 12 n_fways), (wI g n_held 0 12 n_fheld), (wI g n_targets 0 36 n_ftargets), (wI g n_weights 0 36 n_fweights), (wI g co_place 0 12 opc_91239), (wO1 eq eq_rows eq_right oew_91240), (wJ g eq_right 1 8 ofr_91241), (wR g eq_rows 5 8 (fun i => if i < 8 then some (rr i) else none)), (wJ g (rr 0) 1 8 (oct_91245 0)), (wJ g (rr 1) 1 8 (oct_91245 1)), (wJ g (rr 2) 1 8 (oct_91245 2)), (wJ g (rr 3) 1 8 (oct_91245 3)), (wJ g (rr 4) 1 8 (oct_91245 4)), (wJ g (rr 5) 1 8 (oct_91245 5)), (wJ g (rr 6) 1 8 (oct_91245 6)), (wJ g (rr 7) 1 8 (oct_91245 7)), (wI g oc_plan 0 12 opl_91250), (wO10 ol ol_part olw), (wJ g ol_part 1 12 olp)]) [20, 26, 27, 14, 21, 15, 22, 23, 2, 3, 4, 5, 6, 7, 8, 9, 10, 11, 12, 13, 24, 0, 1] rfl
          have hDc := hD.sub (ws' := [(wO0 co n eq co_place), (wO2 n n_nodes n_kind n_pay n_name n_ways n_held n_targets n_weights), (wI g n_kind 0 12 n_fkind), (wI g n_pay 0 12 n_fpay), (wI g n_ways 0 12 n_fways), (wI g n_held 0 12 n_fheld), (wI g n_targets 0 36 n_ftargets), (wI g n_weights 0 36 n_fweights), (wI g co_place 0 12 opc_91239), (wO1 eq eq_rows eq_right oew_91240), (wJ g eq_right 1 8 ofr_91241), (wR g eq_rows 5 8 (fun i => if i < 8 then some (rr i) else none)), (wJ g (rr 0) 1 8 (oct_91245 0)), (wJ g (rr 1) 1 8 (oct_91245 1)), (wJ g (rr 2) 1 8 (oct_91245 2)), (wJ g (rr 3) 1 8 (oct_91245 3)), (wJ g (rr 4) 1 8 (oct_91245 4)), (wJ g (rr 5) 1 8 (oct_91245 5)), (wJ g (rr 6) 1 8 (oct_91245 6)), (wJ g (rr 7) 1 8 (oct_91245 7)), (wI g oc_plan 0 12 opl_91250), (wO10 ol ol_part olw), (wJ g ol_part 1 12 olp)]) [20, 26, 27, 14, 21, 15, 22, 23, 2, 3, 4, 5, 6, 7, 8, 9, 10, 11, 12, 13, 24, 0, 1] (by decide) rfl
          have hFc := va_free (wc := [(wO0 co n eq co_place), (wO2 n n_nodes n_kind n_pay n_name n_ways n_held n_targets n_weights), (wI g n_kind 0 12 n_fkind), (wI g n_pay 0 12 n_fpay), (wI g n_ways 0 12 n_fways), (wI g n_held 0 12 n_fheld), (wI g n_targets 0 36 n_ftargets), (wI g n_weights 0 36 n_fweights), (wI g co_place 0 12 opc_91239), (wO1 eq eq_rows eq_right oew_91240), (wJ g eq_right 1 8 ofr_91241), (wR g eq_rows 5 8 (fun i => if i < 8 then some (rr i) else none)), (wJ g (rr 0) 1 8 (oct_91245 0)), (wJ g (rr 1) 1 8 (oct_91245 1)), (wJ g (rr 2) 1 8 (oct_91245 2)), (wJ g (rr 3) 1 8 (oct_91245 3)), (wJ g (rr 4) 1 8 (oct_91245 4)), (wJ g (rr 5) 1 8 (oct_91245 5)), (wJ g (rr 6) 1 8 (oct_91245 6)), (wJ g (rr 7) 1 8 (oct_91245 7)), (wI g oc_plan 0 12 opl_91250), (wO10 ol ol_part olw), (wJ g ol_part 1 12 olp)]) hD hS hA [20, 26, 27, 14, 21, 15, 22, 23, 2, 3, 4, 5, 6, 7, 8, 9, 10, 11, 12, 13, 24, 0, 1] rfl
          refine va_callv (va_runV (As := [.ref oc_plan, .int x_91430, .ref ol]) (rest := []) ⟨hx, hb, hml, hown, hts⟩ (c_X0_expectMoves l D g H.size co oc_plan x_91430 ol n eq co_place n_nodes n_kind n_pay n_name n_ways n_held n_targets n_weights n_fkind n_fpay n_fways n_fheld n_ftargets n_fweights opc_91239 eq_rows eq_right oew_91240 ofr_91241 rr oct_91245 opl_91250 ol_part olw olp (tr_w h_n_nodes (by decide) (by decide)) (tr_wa h_n_fkind (by decide) (by decide)) (tr_wa h_n_fways (by decide) (by decide)) (tr_wa h_n_fheld (by decide) (by decide)) (tr_wa h_n_ftargets (by decide) (by decide)) (tr_wa hf_91246 (by decide) (by decide)) (tr_wa hf_91251 (by decide) (by decide))) (cwV 3 hts (tz_gV qw_672 qw_673 qw_674 qw_470 qw_675) rfl rfl rfl (by decide +kernel) ⟨Nat.le_of_ble_eq_true rfl, Nat.le_of_ble_eq_true rfl⟩) ⟨tz_blQ, va_recv hK hPc (ci := 0) (q0 := 0) rfl rfl, tz_preQ hPc hK hDc⟩ rfl rfl hl.1 rfl (lv_room (Nat.le_of_ble_eq_true rfl)) dX3_settle_110 ⟨Nat.le_of_ble_eq_true rfl, Nat.le_of_ble_eq_true rfl⟩) hS (fun q _ h => hFc q h) hFc (fun u t H1 locs ht hvm hw hB hz1 hk1 hS => ?_)
          obtain ⟨opc_91436, oew_91437, ofr_91438, ovw_91439, ovp_91440, oct_91441, hf_91442, hP1, hD1⟩ := hB
          rw [ht] at hP1
          obtain ⟨hP, hD⟩ := va_join (wr := [(wO10 ow ow_part ovw_91243), (wJ g ow_part 1 12 ovp_91244), (wI g sv_keep 0 12 okp_91249), (wO6 sv n co sv_keep sv_scaled), (wO3 oc n sv oc_plan ow ol oc_reach oc_ringBits xrc_91255 xrn_91256 ose), (wI g oc_reach 0 12 xrf_91253), (wI g oc_ringBits 0 12 xbf_91257)]) (w1 := [(wO0 co n eq co_place), (wO2 n n_nodes n_kind n_pay n_name n_ways n_held n_targets n_weights), (wI g n_kind 0 12 n_fkind), (wI g n_pay 0 12 n_fpay), (wI g n_ways 0 12 n_fways), (wI g n_held 0 12 n_fheld), (wI g n_targets 0 36 n_ftargets), (wI g n_weights 0 36 n_fweights), (wI g co_place 0 12 opc_91436), (wO1 eq eq_rows eq_right oew_91437), (wJ g eq_right 1 8 ofr_91438), (wR g eq_rows 5 8 (fun i => if i < 8 then some (rr i) else none)), (wJ g (rr 0) 1 8 (oct_91441 0)), (wJ g (rr 1) 1 8 (oct_91441 1)), (wJ g (rr 2) 1 8 (oct_91441 2)), (wJ g (rr 3) 1 8 (oct_91441 3)), (wJ g (rr 4) 1 8 (oct_91441 4)), (wJ g (rr 5) 1 8 (oct_91441 5)), (wJ g (rr 6) 1 8 (oct_91441 6)), (wJ g (rr 7) 1 8 (oct_91441 7)), (wI g oc_plan 0 12 opl_91250), (wO10 ol ol_part ovw_91439), (wJ g ol_part 1 12 ovp_91440)]) hP hD [20, 26, 27, 14, 21, 15, 22, 23, 2, 3, 4, 5, 6, 7, 8, 9, 10, 11, 12, 13, 24, 0, 1] [16, 17, 18, 19, 25, 28, 29] rfl rfl (by decide) (by decide) hk1 hFc hP1 hD1
          generalize H1 = H at hP hS ⊢
          have hP : va_P D vwCl ((wO10 ow ow_part ovw_91243) :: (wJ g ow_part 1 12 ovp_91244) :: (wI g sv_keep 0 12 okp_91249) :: (wO6 sv n co sv_keep sv_scaled) :: (wO3 oc n sv oc_plan ow ol oc_reach oc_ringBits xrc_91255 xrn_91256 ose) :: (wI g oc_reach 0 12 xrf_91253) :: (wI g oc_ringBits 0 12 xbf_91257) :: (wO0 co n eq co_place) :: (wO2 n n_nodes n_kind n_pay n_name n_ways n_held n_targets n_weights) :: (wI g n_kind 0 12 n_fkind) :: (wI g n_pay 0 12 n_fpay) :: (wI g n_ways 0 12 n_fways) :: (wI g n_held 0 12 n_fheld) :: (wI g n_targets 0 36 n_ftargets) :: (wI g n_weights 0 36 n_fweights) :: (wI g co_place 0 12 opc_91436) :: (wO1 eq eq_rows eq_right oew_91437) :: (wJ g eq_right 1 8 ofr_91438) :: (wR g eq_rows 5 8 (fun i => if i < 8 then some (rr i) else none)) :: (wJ g (rr 0) 1 8 (oct_91441 0)) :: (wJ g (rr 1) 1 8 (oct_91441 1)) :: (wJ g (rr 2) 1 8 (oct_91441 2)) :: (wJ g (rr 3) 1 8 (oct_91441 3)) :: (wJ g (rr 4) 1 8 (oct_91441 4)) :: (wJ g (rr 5) 1 8 (oct_91441 5)) :: (wJ g (rr 6) 1 8 (oct_91441 6)) :: (wJ g (rr 7) 1 8 (oct_91441 7)) :: (wI g oc_plan 0 12 opl_91250) :: (wO10 ol ol_part ovw_91439) :: (wJ g ol_part 1 12 ovp_91440) :: []) H := hP
          have hD : va_D A ((wO10 ow ow_part ovw_91243) :: (wJ g ow_part 1 12 ovp_91244) :: (wI g sv_keep 0 12 okp_91249) :: (wO6 sv n co sv_keep sv_scaled) :: (wO3 oc n sv oc_plan ow ol oc_reach oc_ringBits xrc_91255 xrn_91256 ose) :: (wI g oc_reach 0 12 xrf_91253) :: (wI g oc_ringBits 0 12 xbf_91257) :: (wO0 co n eq co_place) :: (wO2 n n_nodes n_kind n_pay n_name n_ways n_held n_targets n_weights) :: (wI g n_kind 0 12 n_fkind) :: (wI g n_pay 0 12 n_fpay) :: (wI g n_ways 0 12 n_fways) :: (wI g n_held 0 12 n_fheld) :: (wI g n_targets 0 36 n_ftargets) :: (wI g n_weights 0 36 n_fweights) :: (wI g co_place 0 12 opc_91436) :: (wO1 eq eq_rows eq_right oew_91437) :: (wJ g eq_right 1 8 ofr_91438) :: (wR g eq_rows 5 8 (fun i => if i < 8 then some (rr i) else none)) :: (wJ g (rr 0) 1 8 (oct_91441 0)) :: (wJ g (rr 1) 1 8 (oct_91441 1)) :: (wJ g (rr 2) 1 8 (oct_91441 2)) :: (wJ g (rr 3) 1 8 (oct_91441 3)) :: (wJ g (rr 4) 1 8 (oct_91441 4)) :: (wJ g (rr 5) 1 8 (oct_91441 5)) :: (wJ g (rr 6) 1 8 (oct_91441 6)) :: (wJ g (rr 7) 1 8 (oct_91441 7)) :: (wI g oc_plan 0 12 opl_91250) :: (wO10 ol ol_part ovw_91439) :: (wJ g ol_part 1 12 ovp_91440) :: []) := hD
          refine lv_aload_n hx hb dX3_settle_113 rfl (lv_at hl 2 rfl) ?_
          refine lv_iconst (v := 1) hx hb dX3_settle_114 (by decide) ?_
          refine va_put (D := D) (ci := 3) (v := .int 1) (ty := .boolean) (C := RX3) (T := TX3) (N := 10) hx hb hts inlX3 tyX3 tyX3_ok nmX3 hown hK hP hD hS 4 rfl rfl 9 (by decide) (hts (Cond.fieldLink RX3 39 "ChanceRings$Outcome" "settled" "Z") qw_650) (fun _ h9 => h9) rfl (by decide +kernel) (by decide) rfl (Nat.le_of_ble_eq_true rfl) dX3_settle_115 (fun H locs hP hD hS => ?_)
          have hP : va_P D vwCl ((wO10 ow ow_part ovw_91243) :: (wJ g ow_part 1 12 ovp_91244) :: (wI g sv_keep 0 12 okp_91249) :: (wO6 sv n co sv_keep sv_scaled) :: (wO3 oc n sv oc_plan ow ol oc_reach oc_ringBits xrc_91255 xrn_91256 1) :: (wI g oc_reach 0 12 xrf_91253) :: (wI g oc_ringBits 0 12 xbf_91257) :: (wO0 co n eq co_place) :: (wO2 n n_nodes n_kind n_pay n_name n_ways n_held n_targets n_weights) :: (wI g n_kind 0 12 n_fkind) :: (wI g n_pay 0 12 n_fpay) :: (wI g n_ways 0 12 n_fways) :: (wI g n_held 0 12 n_fheld) :: (wI g n_targets 0 36 n_ftargets) :: (wI g n_weights 0 36 n_fweights) :: (wI g co_place 0 12 opc_91436) :: (wO1 eq eq_rows eq_right oew_91437) :: (wJ g eq_right 1 8 ofr_91438) :: (wR g eq_rows 5 8 (fun i => if i < 8 then some (rr i) else none)) :: (wJ g (rr 0) 1 8 (oct_91441 0)) :: (wJ g (rr 1) 1 8 (oct_91441 1)) :: (wJ g (rr 2) 1 8 (oct_91441 2)) :: (wJ g (rr 3) 1 8 (oct_91441 3)) :: (wJ g (rr 4) 1 8 (oct_91441 4)) :: (wJ g (rr 5) 1 8 (oct_91441 5)) :: (wJ g (rr 6) 1 8 (oct_91441 6)) :: (wJ g (rr 7) 1 8 (oct_91441 7)) :: (wI g oc_plan 0 12 opl_91250) :: (wO10 ol ol_part ovw_91439) :: (wJ g ol_part 1 12 ovp_91440) :: []) H := hP
          have hD : va_D A ((wO10 ow ow_part ovw_91243) :: (wJ g ow_part 1 12 ovp_91244) :: (wI g sv_keep 0 12 okp_91249) :: (wO6 sv n co sv_keep sv_scaled) :: (wO3 oc n sv oc_plan ow ol oc_reach oc_ringBits xrc_91255 xrn_91256 1) :: (wI g oc_reach 0 12 xrf_91253) :: (wI g oc_ringBits 0 12 xbf_91257) :: (wO0 co n eq co_place) :: (wO2 n n_nodes n_kind n_pay n_name n_ways n_held n_targets n_weights) :: (wI g n_kind 0 12 n_fkind) :: (wI g n_pay 0 12 n_fpay) :: (wI g n_ways 0 12 n_fways) :: (wI g n_held 0 12 n_fheld) :: (wI g n_targets 0 36 n_ftargets) :: (wI g n_weights 0 36 n_fweights) :: (wI g co_place 0 12 opc_91436) :: (wO1 eq eq_rows eq_right oew_91437) :: (wJ g eq_right 1 8 ofr_91438) :: (wR g eq_rows 5 8 (fun i => if i < 8 then some (rr i) else none)) :: (wJ g (rr 0) 1 8 (oct_91441 0)) :: (wJ g (rr 1) 1 8 (oct_91441 1)) :: (wJ g (rr 2) 1 8 (oct_91441 2)) :: (wJ g (rr 3) 1 8 (oct_91441 3)) :: (wJ g (rr 4) 1 8 (oct_91441 4)) :: (wJ g (rr 5) 1 8 (oct_91441 5)) :: (wJ g (rr 6) 1 8 (oct_91441 6)) :: (wJ g (rr 7) 1 8 (oct_91441 7)) :: (wI g oc_plan 0 12 opl_91250) :: (wO10 ol ol_part ovw_91439) :: (wJ g ol_part 1 12 ovp_91440) :: []) := hD
          have hP9 := hP.sub (ws' := ((wO3 oc n sv oc_plan ow ol oc_reach oc_ringBits xrc_91255 xrn_91256 1) :: (wO6 sv n co sv_keep sv_scaled) :: (wO0 co n eq co_place) :: (wO2 n n_nodes n_kind n_pay n_name n_ways n_held n_targets n_weights) :: (wI g n_kind 0 12 n_fkind) :: (wI g n_pay 0 12 n_fpay) :: (wI g n_ways 0 12 n_fways) :: (wI g n_held 0 12 n_fheld) :: (wI g n_targets 0 36 n_ftargets) :: (wI g n_weights 0 36 n_fweights) :: (wI g co_place 0 12 opc_91436) :: (wO1 eq eq_rows eq_right oew_91437) :: (wJ g eq_right 1 8 ofr_91438) :: (wR g eq_rows 5 8 (fun i => if i < 8 then some (rr i) else none)) :: (wJ g (rr 0) 1 8 (oct_91441 0)) :: (wJ g (rr 1) 1 8 (oct_91441 1)) :: (wJ g (rr 2) 1 8 (oct_91441 2)) :: (wJ g (rr 3) 1 8 (oct_91441 3)) :: (wJ g (rr 4) 1 8 (oct_91441 4)) :: (wJ g (rr 5) 1 8 (oct_91441 5)) :: (wJ g (rr 6) 1 8 (oct_91441 6)) :: (wJ g (rr 7) 1 8 (oct_91441 7)) :: (wI g sv_keep 0 12 okp_91249) :: (wI g oc_plan 0 12 opl_91250) :: (wI g oc_reach 0 12 xrf_91253) :: (wI g oc_ringBits 0 12 xbf_91257) :: (wO10 ow ow_part ovw_91243) :: (wJ g ow_part 1 12 ovp_91244) :: (wO10 ol ol_part ovw_91439) :: (wJ g ol_part 1 12 ovp_91440) :: [])) [4, 3, 7, 8, 9, 10, 11, 12, 13, 14, 15, 16, 17, 18, 19, 20, 21, 22, 23, 24, 25, 26, 2, 27, 5, 6, 0, 1, 28, 29] rfl
          have hD9 := hD.sub (ws' := ((wO3 oc n sv oc_plan ow ol oc_reach oc_ringBits xrc_91255 xrn_91256 1) :: (wO6 sv n co sv_keep sv_scaled) :: (wO0 co n eq co_place) :: (wO2 n n_nodes n_kind n_pay n_name n_ways n_held n_targets n_weights) :: (wI g n_kind 0 12 n_fkind) :: (wI g n_pay 0 12 n_fpay) :: (wI g n_ways 0 12 n_fways) :: (wI g n_held 0 12 n_fheld) :: (wI g n_targets 0 36 n_ftargets) :: (wI g n_weights 0 36 n_fweights) :: (wI g co_place 0 12 opc_91436) :: (wO1 eq eq_rows eq_right oew_91437) :: (wJ g eq_right 1 8 ofr_91438) :: (wR g eq_rows 5 8 (fun i => if i < 8 then some (rr i) else none)) :: (wJ g (rr 0) 1 8 (oct_91441 0)) :: (wJ g (rr 1) 1 8 (oct_91441 1)) :: (wJ g (rr 2) 1 8 (oct_91441 2)) :: (wJ g (rr 3) 1 8 (oct_91441 3)) :: (wJ g (rr 4) 1 8 (oct_91441 4)) :: (wJ g (rr 5) 1 8 (oct_91441 5)) :: (wJ g (rr 6) 1 8 (oct_91441 6)) :: (wJ g (rr 7) 1 8 (oct_91441 7)) :: (wI g sv_keep 0 12 okp_91249) :: (wI g oc_plan 0 12 opl_91250) :: (wI g oc_reach 0 12 xrf_91253) :: (wI g oc_ringBits 0 12 xbf_91257) :: (wO10 ow ow_part ovw_91243) :: (wJ g ow_part 1 12 ovp_91244) :: (wO10 ol ol_part ovw_91439) :: (wJ g ol_part 1 12 ovp_91440) :: [])) [4, 3, 7, 8, 9, 10, 11, 12, 13, 14, 15, 16, 17, 18, 19, 20, 21, 22, 23, 24, 25, 26, 2, 27, 5, 6, 0, 1, 28, 29] (by decide) rfl
          exact W.vret hx hb hr (fun t ht hW => ⟨⟨(), rfl, trivial, xrc_91255, xrn_91256, 1, opc_91436, oew_91437, ofr_91438, okp_91249, opl_91250, xrf_91253, xbf_91257, ovw_91243, ovp_91244, ovw_91439, ovp_91440, oct_91441, (tr_w hf_91258 (by decide) (by decide)), (⟨by decide, by decide⟩ : 0 ≤ (1 : Int32).toInt ∧ (1 : Int32).toInt ≤ 1), (tr_wa hf_91442 (by decide) (by decide)), (tr_wa hf_91251 (by decide) (by decide)), by rw [ht]; exact hP9, hD9⟩, hS.F ht⟩) hS.2.2 dX3_settle_118
        · skip
          have c_91432_i := Int32.lt_iff_toInt_lt.mp (Int32.not_le.mp c_91432)
          have h_91433 : 0 ≤ (x_91429 : Int32).toInt ∧ (x_91429 : Int32).toInt ≤ 11 := nr_lt_l h_x_91429 h_n_nodes c_91432_i (by decide) (by decide)
          have h_91434 : 1 ≤ (n_nodes : Int32).toInt ∧ (n_nodes : Int32).toInt ≤ 12 := nr_lt_r h_x_91429 h_n_nodes c_91432_i (by decide) (by decide)
          refine lv_aload_n hx hb dX3_settle_74 rfl (lv_at hl 2 rfl) ?_
          refine lv_iload_n hx hb dX3_settle_75 rfl (lv_at hl 0 rfl) ?_
          have hPc := hP.sub (ws' := [(wO3 oc n sv oc_plan ow ol oc_reach oc_ringBits xrc_91255 xrn_91256 ose), (wI g oc_reach 0 12 xrf_91253)]) [25, 28] rfl
          refine vp_callSi (va_Run.run (va_runV (As := [.int x_91429]) (rest := []) ⟨hx, hb, hml, hown, hts⟩ (c_X3_comesToRing l D g oc x_91429 n sv oc_plan ow ol oc_reach oc_ringBits xrc_91255 xrn_91256 ose xrf_91253 (tr_w h_91433 (by decide) (by decide)) (tr_w hf_91258 (by decide) (by decide)) (tr_w h_91233 (by decide) (by decide))) (cwV 1 hts (tz_gV qw_676 qw_677 qw_678 qw_632 qw_679) rfl rfl rfl (by decide +kernel) ⟨Nat.le_of_ble_eq_true rfl, Nat.le_of_ble_eq_true rfl⟩) ⟨tz_blS, va_recv hK hPc (ci := 3) (q0 := 0) rfl rfl, tz_preS hPc hK⟩ rfl rfl hl.1 rfl (lv_room (Nat.le_of_ble_eq_true rfl)) dX3_settle_76 ⟨Nat.le_of_ble_eq_true rfl, Nat.le_of_ble_eq_true rfl⟩)) (fun r_91443 hw => ?_)
          have hw_91444 : 0 ≤ (r_91443 : Int32).toInt ∧ (r_91443 : Int32).toInt ≤ 1 := hw
          refine lv_if_ne (tgt := 88) hx hb dX3_settle_79 (by decide) (fun c_91445 => ?_) (fun c_91445 => ?_)
          · skip
            have c_91445_i : ¬ (r_91443 : Int32).toInt = (0 : Int32).toInt := (fun q => c_91445 (Int32.toInt_inj.mp q))
            have h_91446 : 1 ≤ (r_91443 : Int32).toInt ∧ (r_91443 : Int32).toInt ≤ 1 := nr_ne_l hw_91444 (⟨by decide, by decide⟩ : 0 ≤ (0 : Int32).toInt ∧ (0 : Int32).toInt ≤ 0) c_91445_i (by decide) (by decide)
            obtain ⟨v_91448, v_91448_e⟩ : ∃ y : Int32, y = x_91429 + Int32.ofInt 1 := ⟨_, rfl⟩
            have h_v_91448 : 1 ≤ (v_91448 : Int32).toInt ∧ (v_91448 : Int32).toInt ≤ 12 := by rw [v_91448_e]; exact tr_add h_91433 (⟨by decide, by decide⟩ : 1 ≤ (Int32.ofInt 1 : Int32).toInt ∧ (Int32.ofInt 1 : Int32).toInt ≤ 1) (by decide) (by decide) (by decide) (by decide)
            have q_v_91448 : v_91448.toInt = x_91429.toInt + 1 := by rw [v_91448_e]; exact tr_addE h_91433 (⟨by decide, by decide⟩ : 1 ≤ (Int32.ofInt 1 : Int32).toInt ∧ (Int32.ofInt 1 : Int32).toInt ≤ 1) (by decide) (by decide)
            refine lv_iinc (v := v_91448) (lv' := [(2, .int v_91448), (1, .int x_91430), (0, .ref oc)]) hx hb dX3_settle_88 hl (k := 0) rfl v_91448_e.symm (by decide) rfl (fun ls hl => ?_)
            refine lv_goto (tgt := 63) hx hb dX3_settle_91 (by decide) ?_
            exact ih_91431 v_91448 x_91430 H _ ls (tr_w h_v_91448 (by decide) (by decide)) (by (first | (clear h_orc hw_91444 c_91445_i h_91446; omega) | omega)) (hP.sub [0, 1, 2, 3, 4, 5, 6, 7, 8, 9, 10, 11, 12, 13, 14, 15, 16, 17, 18, 19, 20, 21, 22, 23, 24, 25, 26, 27, 28, 29] rfl) (hD.sub [0, 1, 2, 3, 4, 5, 6, 7, 8, 9, 10, 11, 12, 13, 14, 15, 16, 17, 18, 19, 20, 21, 22, 23, 24, 25, 26, 27, 28, 29] (by decide) rfl) hS (lv_sub hl [0, 1, 2] rfl)
          · skip
            have c_91445_i : (r_91443 : Int32).toInt = (0 : Int32).toInt := congrArg Int32.toInt c_91445
            have h_91447 : 0 ≤ (r_91443 : Int32).toInt ∧ (r_91443 : Int32).toInt ≤ 0 := nr_eq_l hw_91444 (⟨by decide, by decide⟩ : 0 ≤ (0 : Int32).toInt ∧ (0 : Int32).toInt ≤ 0) c_91445_i (by decide) (by decide)
            refine lv_iload_n hx hb dX3_settle_82 rfl (lv_at hl 1 rfl) ?_
            refine lv_iconst (v := 1) hx hb dX3_settle_83 (by decide) ?_
            refine lv_iload_n hx hb dX3_settle_84 rfl (lv_at hl 0 rfl) ?_
            refine lv_ishl hx hb dX3_settle_85 ?_
            refine lv_topi (fun v_91449 v_91449_e => ?_)
            refine lv_ior hx hb dX3_settle_86 ?_
            refine lv_topi (fun v_91450 v_91450_e => ?_)
            refine lv_istore_n (lv' := [(1, .int v_91450), (2, .int x_91429), (0, .ref oc)]) hx hb dX3_settle_87 rfl hl (by decide) rfl (fun ls hl => ?_)
            obtain ⟨v_91451, v_91451_e⟩ : ∃ y : Int32, y = x_91429 + Int32.ofInt 1 := ⟨_, rfl⟩
            have h_v_91451 : 1 ≤ (v_91451 : Int32).toInt ∧ (v_91451 : Int32).toInt ≤ 12 := by rw [v_91451_e]; exact tr_add h_91433 (⟨by decide, by decide⟩ : 1 ≤ (Int32.ofInt 1 : Int32).toInt ∧ (Int32.ofInt 1 : Int32).toInt ≤ 1) (by decide) (by decide) (by decide) (by decide)
            have q_v_91451 : v_91451.toInt = x_91429.toInt + 1 := by rw [v_91451_e]; exact tr_addE h_91433 (⟨by decide, by decide⟩ : 1 ≤ (Int32.ofInt 1 : Int32).toInt ∧ (Int32.ofInt 1 : Int32).toInt ≤ 1) (by decide) (by decide)
            refine lv_iinc (v := v_91451) (lv' := [(2, .int v_91451), (1, .int v_91450), (0, .ref oc)]) hx hb dX3_settle_88 hl (k := 1) rfl v_91451_e.symm (by decide) rfl (fun ls hl => ?_)
            refine lv_goto (tgt := 63) hx hb dX3_settle_91 (by decide) ?_
            exact ih_91431 v_91451 v_91450 H _ ls (tr_w h_v_91451 (by decide) (by decide)) (by (first | (clear h_orc hw_91444 c_91445_i h_91447; omega) | omega)) (hP.sub [0, 1, 2, 3, 4, 5, 6, 7, 8, 9, 10, 11, 12, 13, 14, 15, 16, 17, 18, 19, 20, 21, 22, 23, 24, 25, 26, 27, 28, 29] rfl) (hD.sub [0, 1, 2, 3, 4, 5, 6, 7, 8, 9, 10, 11, 12, 13, 14, 15, 16, 17, 18, 19, 20, 21, 22, 23, 24, 25, 26, 27, 28, 29] (by decide) rfl) hS (lv_sub hl [0, 1, 2] rfl)
    exact lp_91431 13 0 0 H _ ls (⟨by decide, by decide⟩ : 0 ≤ (0 : Int32).toInt ∧ (0 : Int32).toInt ≤ 12) (by decide) (hP.sub [0, 1, 2, 3, 4, 5, 6, 7, 8, 9, 10, 11, 12, 13, 14, 15, 16, 17, 18, 19, 20, 21, 22, 23, 24, 25, 26, 27, 28, 29] rfl) (hD.sub [0, 1, 2, 3, 4, 5, 6, 7, 8, 9, 10, 11, 12, 13, 14, 15, 16, 17, 18, 19, 20, 21, 22, 23, 24, 25, 26, 27, 28, 29] (by decide) rfl) hS (lv_sub hl [0, 1, 2] rfl)
  · skip
    have c_91232_i : ¬ (ose : Int32).toInt = (0 : Int32).toInt := (fun q => c_91232 (Int32.toInt_inj.mp q))
    have h_91234 : 1 ≤ (ose : Int32).toInt ∧ (ose : Int32).toInt ≤ 1 := nr_ne_l h_ose (⟨by decide, by decide⟩ : 0 ≤ (0 : Int32).toInt ∧ (0 : Int32).toInt ≤ 0) c_91232_i (by decide) (by decide)
    have hP9 := hP.sub (ws' := ((wO3 oc n sv oc_plan ow ol oc_reach oc_ringBits orc orn ose) :: (wO6 sv n co sv_keep sv_scaled) :: (wO0 co n eq co_place) :: (wO2 n n_nodes n_kind n_pay n_name n_ways n_held n_targets n_weights) :: (wI g n_kind 0 12 n_fkind) :: (wI g n_pay 0 12 n_fpay) :: (wI g n_ways 0 12 n_fways) :: (wI g n_held 0 12 n_fheld) :: (wI g n_targets 0 36 n_ftargets) :: (wI g n_weights 0 36 n_fweights) :: (wI g co_place 0 12 pcf) :: (wO1 eq eq_rows eq_right ew) :: (wJ g eq_right 1 8 fr) :: (wR g eq_rows 5 8 (fun i => if i < 8 then some (rr i) else none)) :: (wJ g (rr 0) 1 8 (ct 0)) :: (wJ g (rr 1) 1 8 (ct 1)) :: (wJ g (rr 2) 1 8 (ct 2)) :: (wJ g (rr 3) 1 8 (ct 3)) :: (wJ g (rr 4) 1 8 (ct 4)) :: (wJ g (rr 5) 1 8 (ct 5)) :: (wJ g (rr 6) 1 8 (ct 6)) :: (wJ g (rr 7) 1 8 (ct 7)) :: (wI g sv_keep 0 12 kpf) :: (wI g oc_plan 0 12 opf) :: (wI g oc_reach 0 12 orf) :: (wI g oc_ringBits 0 12 obf) :: (wO10 ow ow_part oww) :: (wJ g ow_part 1 12 owp) :: (wO10 ol ol_part olw) :: (wJ g ol_part 1 12 olp) :: [])) [0, 1, 2, 3, 4, 5, 6, 7, 8, 9, 10, 11, 12, 13, 14, 15, 16, 17, 18, 19, 20, 21, 22, 23, 24, 25, 26, 27, 28, 29] rfl
    have hD9 := hD.sub (ws' := ((wO3 oc n sv oc_plan ow ol oc_reach oc_ringBits orc orn ose) :: (wO6 sv n co sv_keep sv_scaled) :: (wO0 co n eq co_place) :: (wO2 n n_nodes n_kind n_pay n_name n_ways n_held n_targets n_weights) :: (wI g n_kind 0 12 n_fkind) :: (wI g n_pay 0 12 n_fpay) :: (wI g n_ways 0 12 n_fways) :: (wI g n_held 0 12 n_fheld) :: (wI g n_targets 0 36 n_ftargets) :: (wI g n_weights 0 36 n_fweights) :: (wI g co_place 0 12 pcf) :: (wO1 eq eq_rows eq_right ew) :: (wJ g eq_right 1 8 fr) :: (wR g eq_rows 5 8 (fun i => if i < 8 then some (rr i) else none)) :: (wJ g (rr 0) 1 8 (ct 0)) :: (wJ g (rr 1) 1 8 (ct 1)) :: (wJ g (rr 2) 1 8 (ct 2)) :: (wJ g (rr 3) 1 8 (ct 3)) :: (wJ g (rr 4) 1 8 (ct 4)) :: (wJ g (rr 5) 1 8 (ct 5)) :: (wJ g (rr 6) 1 8 (ct 6)) :: (wJ g (rr 7) 1 8 (ct 7)) :: (wI g sv_keep 0 12 kpf) :: (wI g oc_plan 0 12 opf) :: (wI g oc_reach 0 12 orf) :: (wI g oc_ringBits 0 12 obf) :: (wO10 ow ow_part oww) :: (wJ g ow_part 1 12 owp) :: (wO10 ol ol_part olw) :: (wJ g ol_part 1 12 olp) :: [])) [0, 1, 2, 3, 4, 5, 6, 7, 8, 9, 10, 11, 12, 13, 14, 15, 16, 17, 18, 19, 20, 21, 22, 23, 24, 25, 26, 27, 28, 29] (by decide) rfl
    exact W.vret hx hb hr (fun t ht hW => ⟨⟨(), rfl, trivial, orc, orn, ose, pcf, ew, fr, kpf, opf, orf, obf, oww, owp, olw, olp, ct, (tr_w h_orc (by decide) (by decide)), (tr_w h_91234 (by decide) (by decide)), (tr_wa h_pcf (by decide) (by decide)), (tr_wa h_opf (by decide) (by decide)), by rw [ht]; exact hP9, hD9⟩, hS.F ht⟩) hS.2.2 dX3_settle_7
theorem tx_keepP {D : va_G} {ws : va_W} {H H1 : Heap} (hP : va_P D vwCl ws H) (hk : ∀ q : Nat, q < H.size → H1[q]? = H[q]?) : va_P D vwCl ws H1 := hP.kept (fun k q h => hk q.1 (hP k q h).lt)
theorem tx_F {A : Nat → Prop} {s t : State} {H : Heap} {locs : List Loc} (hS : va_S A s.heap H locs) (hz : H.size ≤ t.heap.size) (hk : ∀ q : Nat, q < H.size → t.heap[q]? = H[q]?) : va_F A s t := ⟨Nat.le_trans hS.1 hz, fun q h1 h2 => (hk q (Nat.lt_of_lt_of_le h1 hS.1)).trans (hS.2.1 q h1 h2)⟩
theorem ZT.same {A : Nat → Prop} {u U : State} {H : Heap} (h : ZT A u H) (e : u.vm = U.vm) : ZT A U H := by
  obtain ⟨h1, h2, h3, h4, h5, h6⟩ := h
  have al : u.vm.Alike U.vm := by rw [e]; exact Vm.Alike.refl _
  exact ⟨vx_Zq.moved al h1, vx_Zq.moved al h2, va_Nw.same rfl e h3, va_Nw.same rfl e h4, va_Nw.same rfl e h5, va_Nw.same rfl e h6⟩
theorem ZT.warm {A : Nat → Prop} {s U : State} {H : Heap} (h : ZT A s H) (hW : s.WarmedH U.vm) : ZT A U H := by
  obtain ⟨h1, h2, h3, h4, h5, h6⟩ := h
  exact ⟨vx_Zq.moved hW.alike h1, vx_Zq.moved hW.alike h2, va_Nw.warmD hW h3, va_Nw.warmD hW h4, va_Nw.warmD hW h5, va_Nw.warmC hW h6⟩
theorem tz_blX {D : va_G} {av : List Value} {w : va_W} {tys : List (ClassId × FieldType)} {sz : Nat} {A : Nat → Prop} : FrameBlind (va_Pc av (fun U => U.heap.size = sz ∧ va_P D vwCl w U.heap ∧ va_K D vwCl tys U ∧ va_D (fun _ => True) w ∧ ZT A U U.heap)) := fun a U g mk q => by
  obtain ⟨q0, q1, qP, qK, qD, qZ⟩ := q
  exact ⟨q0, q1, qP, va_K.moved (u := U) (U := U.calling g mk a) (Vm.Alike.refl U.vm) qK, qD, ZT.same (u := U) (U := U.calling g mk a) qZ rfl⟩
theorem tz_preX {D : va_G} {s : State} {H : Heap} {w : va_W} {tys : List (ClassId × FieldType)} {av : List Value} {A B : Nat → Prop} (hP : va_P D vwCl w H) (hK : va_K D vwCl tys s) (hD : va_D A w) (hZ : ZT B s H) : ∀ U : State, U.heap = H → s.WarmedH U.vm → va_Pc av (fun U => U.heap.size = H.size ∧ va_P D vwCl w U.heap ∧ va_K D vwCl tys U ∧ va_D (fun _ => True) w ∧ ZT B U U.heap) av.toArray U := fun U hU hW => ⟨rfl, by rw [hU], by rw [hU]; exact hP, va_K.moved hW.alike hK, hD.weaken (fun _ _ _ _ => trivial), by rw [hU]; exact hZ.warm hW⟩
theorem tx_x0 : ∀ w ∈ (vx_at0 RX11 137 "java/util/NoSuchElementException" ["java/lang/RuntimeException", "java/lang/Exception"]).filter goodWord, w ∈ lw_tbl := by decide +kernel
theorem tx_x1 : ∀ w ∈ (vx_at0 RX11 137 "java/util/NoSuchElementException" ["java/lang/RuntimeException", "java/lang/Exception"]).filter goodWord, w ∈ wsL_law := fun w h => List.mem_filter.mpr ⟨tx_x0 w h, (List.mem_filter.mp h).2⟩
theorem tx_x2 : ∀ w ∈ (vx_at0 RX11 137 "java/util/NoSuchElementException" ["java/lang/RuntimeException", "java/lang/Exception"]).filter (fun w => !goodWord w), w ∈ ([.declares (Bundle.init0 "java/lang/RuntimeException"), .declares (Bundle.init0 "java/lang/Exception"), .declares (Bundle.init0 Bundle.tN), .castable "java/util/NoSuchElementException" "java/util/NoSuchElementException"] : List Cond) := by decide +kernel
theorem tx_good : ∀ w ∈ Cond.classLink RX11 135 "java/util/NoSuchElementException" :: Cond.initialized "java/util/NoSuchElementException" :: vx_at0 RX11 137 "java/util/NoSuchElementException" ["java/lang/RuntimeException", "java/lang/Exception"], vx_ot w = true := by decide +kernel
theorem tx_at {A : Nat → Prop} {args : Array Value} {s : State} {H : Heap} (hts : ∀ w ∈ wsL_law, w.before args s = true) (hZ : ZT A s H) : ∀ w ∈ vx_at0 RX11 137 "java/util/NoSuchElementException" ["java/lang/RuntimeException", "java/lang/Exception"], w.before args s = true :=
  vx_hat (fun w h => hts w (tx_x1 w h)) tx_x2 (vx_c (va_Nw.use rfl hZ.2.2.1) (vx_c (va_Nw.use rfl hZ.2.2.2.1) (vx_c (va_Nw.use rfl hZ.2.2.2.2.1) (vx_c (va_Nw.use rfl hZ.2.2.2.2.2) vx_n))))
