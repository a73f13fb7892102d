theorem qw_0 : Cond.fieldLink RX2 33 "ChanceRings$Net" "nodes" "I" ∈ wsL_law := tseg_1 (by decide +kernel) (List.mem_of_getElem? (i := 54) (by decide +kernel))
theorem qw_1 : Cond.fieldLink RX2 24 "ChanceRings$Net" "held" "[I" ∈ wsL_law := tseg_1 (by decide +kernel) (List.mem_of_getElem? (i := 85) (by decide +kernel))
theorem qw_2 : Cond.fieldLink RX2 27 "ChanceRings$Net" "targets" "[I" ∈ wsL_law := tseg_1 (by decide +kernel) (List.mem_of_getElem? (i := 89) (by decide +kernel))
theorem qw_3 : Cond.fieldLink RX2 9 "ChanceRings$Net" "kind" "[I" ∈ wsL_law := tseg_1 (by decide +kernel) (List.mem_of_getElem? (i := 62) (by decide +kernel))
theorem qw_4 : Cond.fieldLink RX2 15 "ChanceRings$Net" "pay" "[I" ∈ wsL_law := tseg_1 (by decide +kernel) (List.mem_of_getElem? (i := 70) (by decide +kernel))
theorem qw_5 : Cond.fieldLink RX2 21 "ChanceRings$Net" "ways" "[I" ∈ wsL_law := tseg_1 (by decide +kernel) (List.mem_of_getElem? (i := 78) (by decide +kernel))
theorem qw_6 : Cond.methodLink RX2 47 yX2_canTake ∈ wsL_law := tseg_3 (by decide +kernel) (List.mem_of_getElem? (i := 113) (by decide +kernel))
theorem qw_7 : Cond.instanceMethod yX2_canTake ∈ wsL_law := tseg_3 (by decide +kernel) (List.mem_of_getElem? (i := 114) (by decide +kernel))
theorem qw_8 : Cond.selects RX2 yX2_canTake yX2_canTake ∈ wsL_law := tseg_3 (by decide +kernel) (List.mem_of_getElem? (i := 115) (by decide +kernel))
theorem qw_9 : Cond.initialized RX2 ∈ wsL_law := tseg_1 (by decide +kernel) (List.mem_of_getElem? (i := 3) (by decide +kernel))
theorem qw_10 : Cond.code yX2_canTake cX2_canTake 3 (some .boolean) ∈ wsL_law := tseg_3 (by decide +kernel) (List.mem_of_getElem? (i := 116) (by decide +kernel))
theorem qw_11 : Cond.methodLink RX2 51 yX2_target ∈ wsL_law := tseg_3 (by decide +kernel) (List.mem_of_getElem? (i := 117) (by decide +kernel))
theorem qw_12 : Cond.instanceMethod yX2_target ∈ wsL_law := tseg_3 (by decide +kernel) (List.mem_of_getElem? (i := 118) (by decide +kernel))
theorem qw_13 : Cond.selects RX2 yX2_target yX2_target ∈ wsL_law := tseg_3 (by decide +kernel) (List.mem_of_getElem? (i := 119) (by decide +kernel))
theorem qw_14 : Cond.code yX2_target cX2_target 3 (some .int) ∈ wsL_law := tseg_3 (by decide +kernel) (List.mem_of_getElem? (i := 120) (by decide +kernel))
theorem qw_15 : Cond.methodLink RX2 43 yX2_has ∈ wsL_law := tseg_3 (by decide +kernel) (List.mem_of_getElem? (i := 84) (by decide +kernel))
theorem qw_16 : Cond.instanceMethod yX2_has ∈ wsL_law := tseg_3 (by decide +kernel) (List.mem_of_getElem? (i := 85) (by decide +kernel))
theorem qw_17 : Cond.selects RX2 yX2_has yX2_has ∈ wsL_law := tseg_3 (by decide +kernel) (List.mem_of_getElem? (i := 86) (by decide +kernel))
theorem qw_18 : Cond.code yX2_has cX2_has 2 (some .boolean) ∈ wsL_law := tseg_3 (by decide +kernel) (List.mem_of_getElem? (i := 87) (by decide +kernel))
theorem qw_19 : Cond.fieldLink RX2 30 "ChanceRings$Net" "weights" "[I" ∈ wsL_law := tseg_1 (by decide +kernel) (List.mem_of_getElem? (i := 90) (by decide +kernel))
theorem qw_20 : Cond.fieldLink RX2 18 "ChanceRings$Net" "name" "[I" ∈ wsL_law := tseg_1 (by decide +kernel) (List.mem_of_getElem? (i := 76) (by decide +kernel))
theorem dX2_addNode_0 : decode cX2_addNode 0 = .ok (.aload_n 0, 1) := by decide +kernel
theorem dX2_addNode_1 : decode cX2_addNode 1 = .ok (.getfield 33, 3) := by decide +kernel
theorem dX2_addNode_4 : decode cX2_addNode 4 = .ok (.bipush 12, 2) := by decide +kernel
theorem dX2_addNode_6 : decode cX2_addNode 6 = .ok (.if_icmp .ge 63, 3) := by decide +kernel
theorem dX2_addNode_9 : decode cX2_addNode 9 = .ok (.aload_n 0, 1) := by decide +kernel
theorem dX2_addNode_10 : decode cX2_addNode 10 = .ok (.getfield 9, 3) := by decide +kernel
theorem dX2_addNode_13 : decode cX2_addNode 13 = .ok (.aload_n 0, 1) := by decide +kernel
theorem dX2_addNode_14 : decode cX2_addNode 14 = .ok (.getfield 33, 3) := by decide +kernel
theorem dX2_addNode_17 : decode cX2_addNode 17 = .ok (.iload_n 1, 1) := by decide +kernel
theorem dX2_addNode_18 : decode cX2_addNode 18 = .ok (.iastore, 1) := by decide +kernel
theorem dX2_addNode_19 : decode cX2_addNode 19 = .ok (.aload_n 0, 1) := by decide +kernel
theorem dX2_addNode_20 : decode cX2_addNode 20 = .ok (.getfield 18, 3) := by decide +kernel
theorem dX2_addNode_23 : decode cX2_addNode 23 = .ok (.aload_n 0, 1) := by decide +kernel
theorem dX2_addNode_24 : decode cX2_addNode 24 = .ok (.getfield 33, 3) := by decide +kernel
theorem dX2_addNode_27 : decode cX2_addNode 27 = .ok (.iload_n 2, 1) := by decide +kernel
theorem dX2_addNode_28 : decode cX2_addNode 28 = .ok (.iastore, 1) := by decide +kernel
theorem dX2_addNode_29 : decode cX2_addNode 29 = .ok (.aload_n 0, 1) := by decide +kernel
theorem dX2_addNode_30 : decode cX2_addNode 30 = .ok (.getfield 15, 3) := by decide +kernel
theorem dX2_addNode_33 : decode cX2_addNode 33 = .ok (.aload_n 0, 1) := by decide +kernel
theorem dX2_addNode_34 : decode cX2_addNode 34 = .ok (.getfield 33, 3) := by decide +kernel
theorem dX2_addNode_37 : decode cX2_addNode 37 = .ok (.iload_n 3, 1) := by decide +kernel
theorem dX2_addNode_38 : decode cX2_addNode 38 = .ok (.iastore, 1) := by decide +kernel
theorem dX2_addNode_39 : decode cX2_addNode 39 = .ok (.aload_n 0, 1) := by decide +kernel
theorem dX2_addNode_40 : decode cX2_addNode 40 = .ok (.getfield 21, 3) := by decide +kernel
theorem dX2_addNode_43 : decode cX2_addNode 43 = .ok (.aload_n 0, 1) := by decide +kernel
theorem dX2_addNode_44 : decode cX2_addNode 44 = .ok (.getfield 33, 3) := by decide +kernel
theorem dX2_addNode_47 : decode cX2_addNode 47 = .ok (.iconst 0, 1) := by decide +kernel
theorem dX2_addNode_48 : decode cX2_addNode 48 = .ok (.iastore, 1) := by decide +kernel
theorem dX2_addNode_49 : decode cX2_addNode 49 = .ok (.aload_n 0, 1) := by decide +kernel
theorem dX2_addNode_50 : decode cX2_addNode 50 = .ok (.getfield 24, 3) := by decide +kernel
theorem dX2_addNode_53 : decode cX2_addNode 53 = .ok (.aload_n 0, 1) := by decide +kernel
theorem dX2_addNode_54 : decode cX2_addNode 54 = .ok (.getfield 33, 3) := by decide +kernel
theorem dX2_addNode_57 : decode cX2_addNode 57 = .ok (.iconst (-1), 1) := by decide +kernel
theorem dX2_addNode_58 : decode cX2_addNode 58 = .ok (.iastore, 1) := by decide +kernel
theorem dX2_addNode_59 : decode cX2_addNode 59 = .ok (.aload_n 0, 1) := by decide +kernel
theorem dX2_addNode_60 : decode cX2_addNode 60 = .ok (.dup, 1) := by decide +kernel
theorem dX2_addNode_61 : decode cX2_addNode 61 = .ok (.getfield 33, 3) := by decide +kernel
theorem dX2_addNode_64 : decode cX2_addNode 64 = .ok (.iconst 1, 1) := by decide +kernel
theorem dX2_addNode_65 : decode cX2_addNode 65 = .ok (.iadd, 1) := by decide +kernel
theorem dX2_addNode_66 : decode cX2_addNode 66 = .ok (.putfield 33, 3) := by decide +kernel
theorem dX2_addNode_69 : decode cX2_addNode 69 = .ok (.return_, 1) := by decide +kernel
theorem dX2_addWay_0 : decode cX2_addWay 0 = .ok (.aload_n 0, 1) := by decide +kernel
theorem dX2_addWay_1 : decode cX2_addWay 1 = .ok (.getfield 21, 3) := by decide +kernel
theorem dX2_addWay_4 : decode cX2_addWay 4 = .ok (.iload_n 1, 1) := by decide +kernel
theorem dX2_addWay_5 : decode cX2_addWay 5 = .ok (.iaload, 1) := by decide +kernel
theorem dX2_addWay_6 : decode cX2_addWay 6 = .ok (.iconst 3, 1) := by decide +kernel
theorem dX2_addWay_7 : decode cX2_addWay 7 = .ok (.if_icmp .ge 45, 3) := by decide +kernel
theorem dX2_addWay_10 : decode cX2_addWay 10 = .ok (.aload_n 0, 1) := by decide +kernel
theorem dX2_addWay_11 : decode cX2_addWay 11 = .ok (.getfield 27, 3) := by decide +kernel
theorem dX2_addWay_14 : decode cX2_addWay 14 = .ok (.iload_n 1, 1) := by decide +kernel
theorem dX2_addWay_15 : decode cX2_addWay 15 = .ok (.iconst 3, 1) := by decide +kernel
theorem dX2_addWay_16 : decode cX2_addWay 16 = .ok (.imul, 1) := by decide +kernel
theorem dX2_addWay_17 : decode cX2_addWay 17 = .ok (.aload_n 0, 1) := by decide +kernel
theorem dX2_addWay_18 : decode cX2_addWay 18 = .ok (.getfield 21, 3) := by decide +kernel
theorem dX2_addWay_21 : decode cX2_addWay 21 = .ok (.iload_n 1, 1) := by decide +kernel
theorem dX2_addWay_22 : decode cX2_addWay 22 = .ok (.iaload, 1) := by decide +kernel
theorem dX2_addWay_23 : decode cX2_addWay 23 = .ok (.iadd, 1) := by decide +kernel
theorem dX2_addWay_24 : decode cX2_addWay 24 = .ok (.iload_n 2, 1) := by decide +kernel
theorem dX2_addWay_25 : decode cX2_addWay 25 = .ok (.iastore, 1) := by decide +kernel
theorem dX2_addWay_26 : decode cX2_addWay 26 = .ok (.aload_n 0, 1) := by decide +kernel
theorem dX2_addWay_27 : decode cX2_addWay 27 = .ok (.getfield 30, 3) := by decide +kernel
theorem dX2_addWay_30 : decode cX2_addWay 30 = .ok (.iload_n 1, 1) := by decide +kernel
theorem dX2_addWay_31 : decode cX2_addWay 31 = .ok (.iconst 3, 1) := by decide +kernel
theorem dX2_addWay_32 : decode cX2_addWay 32 = .ok (.imul, 1) := by decide +kernel
theorem dX2_addWay_33 : decode cX2_addWay 33 = .ok (.aload_n 0, 1) := by decide +kernel
theorem dX2_addWay_34 : decode cX2_addWay 34 = .ok (.getfield 21, 3) := by decide +kernel
theorem dX2_addWay_37 : decode cX2_addWay 37 = .ok (.iload_n 1, 1) := by decide +kernel
theorem dX2_addWay_38 : decode cX2_addWay 38 = .ok (.iaload, 1) := by decide +kernel
theorem dX2_addWay_39 : decode cX2_addWay 39 = .ok (.iadd, 1) := by decide +kernel
theorem dX2_addWay_40 : decode cX2_addWay 40 = .ok (.iload_n 3, 1) := by decide +kernel
theorem dX2_addWay_41 : decode cX2_addWay 41 = .ok (.iastore, 1) := by decide +kernel
theorem dX2_addWay_42 : decode cX2_addWay 42 = .ok (.aload_n 0, 1) := by decide +kernel
theorem dX2_addWay_43 : decode cX2_addWay 43 = .ok (.getfield 21, 3) := by decide +kernel
theorem dX2_addWay_46 : decode cX2_addWay 46 = .ok (.iload_n 1, 1) := by decide +kernel
theorem dX2_addWay_47 : decode cX2_addWay 47 = .ok (.dup2, 1) := by decide +kernel
theorem dX2_addWay_48 : decode cX2_addWay 48 = .ok (.iaload, 1) := by decide +kernel
theorem dX2_addWay_49 : decode cX2_addWay 49 = .ok (.iconst 1, 1) := by decide +kernel
theorem dX2_addWay_50 : decode cX2_addWay 50 = .ok (.iadd, 1) := by decide +kernel
theorem dX2_addWay_51 : decode cX2_addWay 51 = .ok (.iastore, 1) := by decide +kernel
theorem dX2_addWay_52 : decode cX2_addWay 52 = .ok (.return_, 1) := by decide +kernel
theorem dX2_canTake_0 : decode cX2_canTake 0 = .ok (.aload_n 0, 1) := by decide +kernel
theorem dX2_canTake_1 : decode cX2_canTake 1 = .ok (.getfield 24, 3) := by decide +kernel
theorem dX2_canTake_4 : decode cX2_canTake 4 = .ok (.iload_n 1, 1) := by decide +kernel
theorem dX2_canTake_5 : decode cX2_canTake 5 = .ok (.iaload, 1) := by decide +kernel
theorem dX2_canTake_6 : decode cX2_canTake 6 = .ok (.iconst (-1), 1) := by decide +kernel
theorem dX2_canTake_7 : decode cX2_canTake 7 = .ok (.if_icmp .eq 13, 3) := by decide +kernel
theorem dX2_canTake_10 : decode cX2_canTake 10 = .ok (.aload_n 0, 1) := by decide +kernel
theorem dX2_canTake_11 : decode cX2_canTake 11 = .ok (.getfield 24, 3) := by decide +kernel
theorem dX2_canTake_14 : decode cX2_canTake 14 = .ok (.iload_n 1, 1) := by decide +kernel
theorem dX2_canTake_15 : decode cX2_canTake 15 = .ok (.iaload, 1) := by decide +kernel
theorem dX2_canTake_16 : decode cX2_canTake 16 = .ok (.iload_n 2, 1) := by decide +kernel
theorem dX2_canTake_17 : decode cX2_canTake 17 = .ok (.if_icmp .ne 7, 3) := by decide +kernel
theorem dX2_canTake_20 : decode cX2_canTake 20 = .ok (.iconst 1, 1) := by decide +kernel
theorem dX2_canTake_21 : decode cX2_canTake 21 = .ok (.goto 4, 3) := by decide +kernel
theorem dX2_canTake_24 : decode cX2_canTake 24 = .ok (.iconst 0, 1) := by decide +kernel
theorem dX2_canTake_25 : decode cX2_canTake 25 = .ok (.ireturn, 1) := by decide +kernel
theorem dX2_countOf_0 : decode cX2_countOf 0 = .ok (.iconst 0, 1) := by decide +kernel
theorem dX2_countOf_1 : decode cX2_countOf 1 = .ok (.istore_n 2, 1) := by decide +kernel
theorem dX2_countOf_2 : decode cX2_countOf 2 = .ok (.iconst 0, 1) := by decide +kernel
theorem dX2_countOf_3 : decode cX2_countOf 3 = .ok (.istore_n 3, 1) := by decide +kernel
theorem dX2_countOf_4 : decode cX2_countOf 4 = .ok (.iload_n 3, 1) := by decide +kernel
theorem dX2_countOf_5 : decode cX2_countOf 5 = .ok (.aload_n 0, 1) := by decide +kernel
theorem dX2_countOf_6 : decode cX2_countOf 6 = .ok (.getfield 33, 3) := by decide +kernel
theorem dX2_countOf_9 : decode cX2_countOf 9 = .ok (.if_icmp .ge 22, 3) := by decide +kernel
theorem dX2_countOf_12 : decode cX2_countOf 12 = .ok (.aload_n 0, 1) := by decide +kernel
theorem dX2_countOf_13 : decode cX2_countOf 13 = .ok (.getfield 9, 3) := by decide +kernel
theorem dX2_countOf_16 : decode cX2_countOf 16 = .ok (.iload_n 3, 1) := by decide +kernel
theorem dX2_countOf_17 : decode cX2_countOf 17 = .ok (.iaload, 1) := by decide +kernel
theorem dX2_countOf_18 : decode cX2_countOf 18 = .ok (.iload_n 1, 1) := by decide +kernel
theorem dX2_countOf_19 : decode cX2_countOf 19 = .ok (.if_icmp .ne 6, 3) := by decide +kernel
theorem dX2_countOf_22 : decode cX2_countOf 22 = .ok (.iinc 2 1, 3) := by decide +kernel
theorem dX2_countOf_25 : decode cX2_countOf 25 = .ok (.iinc 3 1, 3) := by decide +kernel
theorem dX2_countOf_28 : decode cX2_countOf 28 = .ok (.goto (-24), 3) := by decide +kernel
theorem dX2_countOf_31 : decode cX2_countOf 31 = .ok (.iload_n 2, 1) := by decide +kernel
theorem dX2_countOf_32 : decode cX2_countOf 32 = .ok (.ireturn, 1) := by decide +kernel
theorem dX2_countTakable_0 : decode cX2_countTakable 0 = .ok (.aload_n 0, 1) := by decide +kernel
theorem dX2_countTakable_1 : decode cX2_countTakable 1 = .ok (.getfield 24, 3) := by decide +kernel
theorem dX2_countTakable_4 : decode cX2_countTakable 4 = .ok (.iload_n 1, 1) := by decide +kernel
theorem dX2_countTakable_5 : decode cX2_countTakable 5 = .ok (.iaload, 1) := by decide +kernel
theorem dX2_countTakable_6 : decode cX2_countTakable 6 = .ok (.iconst (-1), 1) := by decide +kernel
theorem dX2_countTakable_7 : decode cX2_countTakable 7 = .ok (.if_icmp .ne 12, 3) := by decide +kernel
theorem dX2_countTakable_10 : decode cX2_countTakable 10 = .ok (.aload_n 0, 1) := by decide +kernel
theorem dX2_countTakable_11 : decode cX2_countTakable 11 = .ok (.getfield 21, 3) := by decide +kernel
theorem dX2_countTakable_14 : decode cX2_countTakable 14 = .ok (.iload_n 1, 1) := by decide +kernel
theorem dX2_countTakable_15 : decode cX2_countTakable 15 = .ok (.iaload, 1) := by decide +kernel
theorem dX2_countTakable_16 : decode cX2_countTakable 16 = .ok (.goto 4, 3) := by decide +kernel
theorem dX2_countTakable_19 : decode cX2_countTakable 19 = .ok (.iconst 1, 1) := by decide +kernel
theorem dX2_countTakable_20 : decode cX2_countTakable 20 = .ok (.ireturn, 1) := by decide +kernel
theorem dX2_countWays_0 : decode cX2_countWays 0 = .ok (.iconst 0, 1) := by decide +kernel
theorem dX2_countWays_1 : decode cX2_countWays 1 = .ok (.istore_n 1, 1) := by decide +kernel
theorem dX2_countWays_2 : decode cX2_countWays 2 = .ok (.iconst 0, 1) := by decide +kernel
theorem dX2_countWays_3 : decode cX2_countWays 3 = .ok (.istore_n 2, 1) := by decide +kernel
theorem dX2_countWays_4 : decode cX2_countWays 4 = .ok (.iload_n 2, 1) := by decide +kernel
theorem dX2_countWays_5 : decode cX2_countWays 5 = .ok (.aload_n 0, 1) := by decide +kernel
theorem dX2_countWays_6 : decode cX2_countWays 6 = .ok (.getfield 33, 3) := by decide +kernel
theorem dX2_countWays_9 : decode cX2_countWays 9 = .ok (.if_icmp .ge 18, 3) := by decide +kernel
theorem dX2_countWays_12 : decode cX2_countWays 12 = .ok (.iload_n 1, 1) := by decide +kernel
theorem dX2_countWays_13 : decode cX2_countWays 13 = .ok (.aload_n 0, 1) := by decide +kernel
theorem dX2_countWays_14 : decode cX2_countWays 14 = .ok (.getfield 21, 3) := by decide +kernel
theorem dX2_countWays_17 : decode cX2_countWays 17 = .ok (.iload_n 2, 1) := by decide +kernel
theorem dX2_countWays_18 : decode cX2_countWays 18 = .ok (.iaload, 1) := by decide +kernel
theorem dX2_countWays_19 : decode cX2_countWays 19 = .ok (.iadd, 1) := by decide +kernel
theorem dX2_countWays_20 : decode cX2_countWays 20 = .ok (.istore_n 1, 1) := by decide +kernel
theorem dX2_countWays_21 : decode cX2_countWays 21 = .ok (.iinc 2 1, 3) := by decide +kernel
theorem dX2_countWays_24 : decode cX2_countWays 24 = .ok (.goto (-20), 3) := by decide +kernel
theorem dX2_countWays_27 : decode cX2_countWays 27 = .ok (.iload_n 1, 1) := by decide +kernel
theorem dX2_countWays_28 : decode cX2_countWays 28 = .ok (.ireturn, 1) := by decide +kernel
theorem dX2_find_0 : decode cX2_find 0 = .ok (.iconst 0, 1) := by decide +kernel
theorem dX2_find_1 : decode cX2_find 1 = .ok (.istore_n 2, 1) := by decide +kernel
theorem dX2_find_2 : decode cX2_find 2 = .ok (.iload_n 2, 1) := by decide +kernel
theorem dX2_find_3 : decode cX2_find 3 = .ok (.aload_n 0, 1) := by decide +kernel
theorem dX2_find_4 : decode cX2_find 4 = .ok (.getfield 33, 3) := by decide +kernel
theorem dX2_find_7 : decode cX2_find 7 = .ok (.if_icmp .ge 21, 3) := by decide +kernel
theorem dX2_find_10 : decode cX2_find 10 = .ok (.aload_n 0, 1) := by decide +kernel
theorem dX2_find_11 : decode cX2_find 11 = .ok (.getfield 18, 3) := by decide +kernel
theorem dX2_find_14 : decode cX2_find 14 = .ok (.iload_n 2, 1) := by decide +kernel
theorem dX2_find_15 : decode cX2_find 15 = .ok (.iaload, 1) := by decide +kernel
theorem dX2_find_16 : decode cX2_find 16 = .ok (.iload_n 1, 1) := by decide +kernel
theorem dX2_find_17 : decode cX2_find 17 = .ok (.if_icmp .ne 5, 3) := by decide +kernel
theorem dX2_find_20 : decode cX2_find 20 = .ok (.iload_n 2, 1) := by decide +kernel
theorem dX2_find_21 : decode cX2_find 21 = .ok (.ireturn, 1) := by decide +kernel
theorem dX2_find_22 : decode cX2_find 22 = .ok (.iinc 2 1, 3) := by decide +kernel
theorem dX2_find_25 : decode cX2_find 25 = .ok (.goto (-23), 3) := by decide +kernel
theorem dX2_find_28 : decode cX2_find 28 = .ok (.iconst (-1), 1) := by decide +kernel
theorem dX2_find_29 : decode cX2_find 29 = .ok (.ireturn, 1) := by decide +kernel
theorem dX2_has_0 : decode cX2_has 0 = .ok (.iload_n 1, 1) := by decide +kernel
theorem dX2_has_1 : decode cX2_has 1 = .ok (.ifCond .lt 15, 3) := by decide +kernel
theorem dX2_has_4 : decode cX2_has 4 = .ok (.iload_n 1, 1) := by decide +kernel
theorem dX2_has_5 : decode cX2_has 5 = .ok (.aload_n 0, 1) := by decide +kernel
theorem dX2_has_6 : decode cX2_has 6 = .ok (.getfield 33, 3) := by decide +kernel
theorem dX2_has_9 : decode cX2_has 9 = .ok (.if_icmp .ge 7, 3) := by decide +kernel
theorem dX2_has_12 : decode cX2_has 12 = .ok (.iconst 1, 1) := by decide +kernel
theorem dX2_has_13 : decode cX2_has 13 = .ok (.goto 4, 3) := by decide +kernel
theorem dX2_has_16 : decode cX2_has 16 = .ok (.iconst 0, 1) := by decide +kernel
theorem dX2_has_17 : decode cX2_has 17 = .ok (.ireturn, 1) := by decide +kernel
theorem dX2_hasWay_0 : decode cX2_hasWay 0 = .ok (.aload_n 0, 1) := by decide +kernel
theorem dX2_hasWay_1 : decode cX2_hasWay 1 = .ok (.iload_n 1, 1) := by decide +kernel
theorem dX2_hasWay_2 : decode cX2_hasWay 2 = .ok (.invokevirtual 43, 3) := by decide +kernel
theorem dX2_hasWay_5 : decode cX2_hasWay 5 = .ok (.ifCond .eq 21, 3) := by decide +kernel
theorem dX2_hasWay_8 : decode cX2_hasWay 8 = .ok (.iload_n 2, 1) := by decide +kernel
theorem dX2_hasWay_9 : decode cX2_hasWay 9 = .ok (.ifCond .lt 17, 3) := by decide +kernel
theorem dX2_hasWay_12 : decode cX2_hasWay 12 = .ok (.iload_n 2, 1) := by decide +kernel
theorem dX2_hasWay_13 : decode cX2_hasWay 13 = .ok (.aload_n 0, 1) := by decide +kernel
theorem dX2_hasWay_14 : decode cX2_hasWay 14 = .ok (.getfield 21, 3) := by decide +kernel
theorem dX2_hasWay_17 : decode cX2_hasWay 17 = .ok (.iload_n 1, 1) := by decide +kernel
theorem dX2_hasWay_18 : decode cX2_hasWay 18 = .ok (.iaload, 1) := by decide +kernel
theorem dX2_hasWay_19 : decode cX2_hasWay 19 = .ok (.if_icmp .ge 7, 3) := by decide +kernel
theorem dX2_hasWay_22 : decode cX2_hasWay 22 = .ok (.iconst 1, 1) := by decide +kernel
theorem dX2_hasWay_23 : decode cX2_hasWay 23 = .ok (.goto 4, 3) := by decide +kernel
theorem dX2_hasWay_26 : decode cX2_hasWay 26 = .ok (.iconst 0, 1) := by decide +kernel
theorem dX2_hasWay_27 : decode cX2_hasWay 27 = .ok (.ireturn, 1) := by decide +kernel
theorem dX2_heldNodes_0 : decode cX2_heldNodes 0 = .ok (.iconst 0, 1) := by decide +kernel
theorem dX2_heldNodes_1 : decode cX2_heldNodes 1 = .ok (.istore_n 1, 1) := by decide +kernel
theorem dX2_heldNodes_2 : decode cX2_heldNodes 2 = .ok (.iconst 0, 1) := by decide +kernel
theorem dX2_heldNodes_3 : decode cX2_heldNodes 3 = .ok (.istore_n 2, 1) := by decide +kernel
theorem dX2_heldNodes_4 : decode cX2_heldNodes 4 = .ok (.iload_n 2, 1) := by decide +kernel
theorem dX2_heldNodes_5 : decode cX2_heldNodes 5 = .ok (.aload_n 0, 1) := by decide +kernel
theorem dX2_heldNodes_6 : decode cX2_heldNodes 6 = .ok (.getfield 33, 3) := by decide +kernel
theorem dX2_heldNodes_9 : decode cX2_heldNodes 9 = .ok (.if_icmp .ge 25, 3) := by decide +kernel
theorem dX2_heldNodes_12 : decode cX2_heldNodes 12 = .ok (.aload_n 0, 1) := by decide +kernel
theorem dX2_heldNodes_13 : decode cX2_heldNodes 13 = .ok (.getfield 24, 3) := by decide +kernel
theorem dX2_heldNodes_16 : decode cX2_heldNodes 16 = .ok (.iload_n 2, 1) := by decide +kernel
theorem dX2_heldNodes_17 : decode cX2_heldNodes 17 = .ok (.iaload, 1) := by decide +kernel
theorem dX2_heldNodes_18 : decode cX2_heldNodes 18 = .ok (.iconst (-1), 1) := by decide +kernel
theorem dX2_heldNodes_19 : decode cX2_heldNodes 19 = .ok (.if_icmp .eq 9, 3) := by decide +kernel
theorem dX2_heldNodes_22 : decode cX2_heldNodes 22 = .ok (.iload_n 1, 1) := by decide +kernel
theorem dX2_heldNodes_23 : decode cX2_heldNodes 23 = .ok (.iconst 1, 1) := by decide +kernel
theorem dX2_heldNodes_24 : decode cX2_heldNodes 24 = .ok (.iload_n 2, 1) := by decide +kernel
theorem dX2_heldNodes_25 : decode cX2_heldNodes 25 = .ok (.ishl, 1) := by decide +kernel
theorem dX2_heldNodes_26 : decode cX2_heldNodes 26 = .ok (.ior, 1) := by decide +kernel
theorem dX2_heldNodes_27 : decode cX2_heldNodes 27 = .ok (.istore_n 1, 1) := by decide +kernel
theorem dX2_heldNodes_28 : decode cX2_heldNodes 28 = .ok (.iinc 2 1, 3) := by decide +kernel
theorem dX2_heldNodes_31 : decode cX2_heldNodes 31 = .ok (.goto (-27), 3) := by decide +kernel
theorem dX2_heldNodes_34 : decode cX2_heldNodes 34 = .ok (.iload_n 1, 1) := by decide +kernel
theorem dX2_heldNodes_35 : decode cX2_heldNodes 35 = .ok (.ireturn, 1) := by decide +kernel
theorem dX2_isChooser_0 : decode cX2_isChooser 0 = .ok (.aload_n 0, 1) := by decide +kernel
theorem dX2_isChooser_1 : decode cX2_isChooser 1 = .ok (.iload_n 1, 1) := by decide +kernel
theorem dX2_isChooser_2 : decode cX2_isChooser 2 = .ok (.invokevirtual 43, 3) := by decide +kernel
theorem dX2_isChooser_5 : decode cX2_isChooser 5 = .ok (.ifCond .eq 27, 3) := by decide +kernel
theorem dX2_isChooser_8 : decode cX2_isChooser 8 = .ok (.aload_n 0, 1) := by decide +kernel
theorem dX2_isChooser_9 : decode cX2_isChooser 9 = .ok (.getfield 9, 3) := by decide +kernel
theorem dX2_isChooser_12 : decode cX2_isChooser 12 = .ok (.iload_n 1, 1) := by decide +kernel
theorem dX2_isChooser_13 : decode cX2_isChooser 13 = .ok (.iaload, 1) := by decide +kernel
theorem dX2_isChooser_14 : decode cX2_isChooser 14 = .ok (.iconst 1, 1) := by decide +kernel
theorem dX2_isChooser_15 : decode cX2_isChooser 15 = .ok (.if_icmp .eq 13, 3) := by decide +kernel
theorem dX2_isChooser_18 : decode cX2_isChooser 18 = .ok (.aload_n 0, 1) := by decide +kernel
theorem dX2_isChooser_19 : decode cX2_isChooser 19 = .ok (.getfield 9, 3) := by decide +kernel
theorem dX2_isChooser_22 : decode cX2_isChooser 22 = .ok (.iload_n 1, 1) := by decide +kernel
theorem dX2_isChooser_23 : decode cX2_isChooser 23 = .ok (.iaload, 1) := by decide +kernel
theorem dX2_isChooser_24 : decode cX2_isChooser 24 = .ok (.iconst 2, 1) := by decide +kernel
theorem dX2_isChooser_25 : decode cX2_isChooser 25 = .ok (.if_icmp .ne 7, 3) := by decide +kernel
theorem dX2_isChooser_28 : decode cX2_isChooser 28 = .ok (.iconst 1, 1) := by decide +kernel
theorem dX2_isChooser_29 : decode cX2_isChooser 29 = .ok (.goto 4, 3) := by decide +kernel
theorem dX2_isChooser_32 : decode cX2_isChooser 32 = .ok (.iconst 0, 1) := by decide +kernel
theorem dX2_isChooser_33 : decode cX2_isChooser 33 = .ok (.ireturn, 1) := by decide +kernel
theorem dX2_nextNodes_0 : decode cX2_nextNodes 0 = .ok (.iconst 0, 1) := by decide +kernel
theorem dX2_nextNodes_1 : decode cX2_nextNodes 1 = .ok (.istore_n 2, 1) := by decide +kernel
theorem dX2_nextNodes_2 : decode cX2_nextNodes 2 = .ok (.iconst 0, 1) := by decide +kernel
theorem dX2_nextNodes_3 : decode cX2_nextNodes 3 = .ok (.istore_n 3, 1) := by decide +kernel
theorem dX2_nextNodes_4 : decode cX2_nextNodes 4 = .ok (.iload_n 3, 1) := by decide +kernel
theorem dX2_nextNodes_5 : decode cX2_nextNodes 5 = .ok (.aload_n 0, 1) := by decide +kernel
theorem dX2_nextNodes_6 : decode cX2_nextNodes 6 = .ok (.getfield 21, 3) := by decide +kernel
theorem dX2_nextNodes_9 : decode cX2_nextNodes 9 = .ok (.iload_n 1, 1) := by decide +kernel
theorem dX2_nextNodes_10 : decode cX2_nextNodes 10 = .ok (.iaload, 1) := by decide +kernel
theorem dX2_nextNodes_11 : decode cX2_nextNodes 11 = .ok (.if_icmp .ge 29, 3) := by decide +kernel
theorem dX2_nextNodes_14 : decode cX2_nextNodes 14 = .ok (.aload_n 0, 1) := by decide +kernel
theorem dX2_nextNodes_15 : decode cX2_nextNodes 15 = .ok (.iload_n 1, 1) := by decide +kernel
theorem dX2_nextNodes_16 : decode cX2_nextNodes 16 = .ok (.iload_n 3, 1) := by decide +kernel
theorem dX2_nextNodes_17 : decode cX2_nextNodes 17 = .ok (.invokevirtual 47, 3) := by decide +kernel
theorem dX2_nextNodes_20 : decode cX2_nextNodes 20 = .ok (.ifCond .eq 14, 3) := by decide +kernel
theorem dX2_nextNodes_23 : decode cX2_nextNodes 23 = .ok (.iload_n 2, 1) := by decide +kernel
theorem dX2_nextNodes_24 : decode cX2_nextNodes 24 = .ok (.iconst 1, 1) := by decide +kernel
theorem dX2_nextNodes_25 : decode cX2_nextNodes 25 = .ok (.aload_n 0, 1) := by decide +kernel
theorem dX2_nextNodes_26 : decode cX2_nextNodes 26 = .ok (.iload_n 1, 1) := by decide +kernel
theorem dX2_nextNodes_27 : decode cX2_nextNodes 27 = .ok (.iload_n 3, 1) := by decide +kernel
theorem dX2_nextNodes_28 : decode cX2_nextNodes 28 = .ok (.invokevirtual 51, 3) := by decide +kernel
theorem dX2_nextNodes_31 : decode cX2_nextNodes 31 = .ok (.ishl, 1) := by decide +kernel
theorem dX2_nextNodes_32 : decode cX2_nextNodes 32 = .ok (.ior, 1) := by decide +kernel
theorem dX2_nextNodes_33 : decode cX2_nextNodes 33 = .ok (.istore_n 2, 1) := by decide +kernel
theorem dX2_nextNodes_34 : decode cX2_nextNodes 34 = .ok (.iinc 3 1, 3) := by decide +kernel
theorem dX2_nextNodes_37 : decode cX2_nextNodes 37 = .ok (.goto (-33), 3) := by decide +kernel
theorem dX2_nextNodes_40 : decode cX2_nextNodes 40 = .ok (.iload_n 2, 1) := by decide +kernel
theorem dX2_nextNodes_41 : decode cX2_nextNodes 41 = .ok (.ireturn, 1) := by decide +kernel
theorem dX2_payingEnds_0 : decode cX2_payingEnds 0 = .ok (.iconst 0, 1) := by decide +kernel
theorem dX2_payingEnds_1 : decode cX2_payingEnds 1 = .ok (.istore_n 1, 1) := by decide +kernel
theorem dX2_payingEnds_2 : decode cX2_payingEnds 2 = .ok (.iconst 0, 1) := by decide +kernel
theorem dX2_payingEnds_3 : decode cX2_payingEnds 3 = .ok (.istore_n 2, 1) := by decide +kernel
theorem dX2_payingEnds_4 : decode cX2_payingEnds 4 = .ok (.iload_n 2, 1) := by decide +kernel
theorem dX2_payingEnds_5 : decode cX2_payingEnds 5 = .ok (.aload_n 0, 1) := by decide +kernel
theorem dX2_payingEnds_6 : decode cX2_payingEnds 6 = .ok (.getfield 33, 3) := by decide +kernel
theorem dX2_payingEnds_9 : decode cX2_payingEnds 9 = .ok (.if_icmp .ge 33, 3) := by decide +kernel
theorem dX2_payingEnds_12 : decode cX2_payingEnds 12 = .ok (.aload_n 0, 1) := by decide +kernel
theorem dX2_payingEnds_13 : decode cX2_payingEnds 13 = .ok (.getfield 9, 3) := by decide +kernel
theorem dX2_payingEnds_16 : decode cX2_payingEnds 16 = .ok (.iload_n 2, 1) := by decide +kernel
theorem dX2_payingEnds_17 : decode cX2_payingEnds 17 = .ok (.iaload, 1) := by decide +kernel
theorem dX2_payingEnds_18 : decode cX2_payingEnds 18 = .ok (.ifCond .ne 18, 3) := by decide +kernel
theorem dX2_payingEnds_21 : decode cX2_payingEnds 21 = .ok (.aload_n 0, 1) := by decide +kernel
theorem dX2_payingEnds_22 : decode cX2_payingEnds 22 = .ok (.getfield 15, 3) := by decide +kernel
theorem dX2_payingEnds_25 : decode cX2_payingEnds 25 = .ok (.iload_n 2, 1) := by decide +kernel
theorem dX2_payingEnds_26 : decode cX2_payingEnds 26 = .ok (.iaload, 1) := by decide +kernel
theorem dX2_payingEnds_27 : decode cX2_payingEnds 27 = .ok (.ifCond .le 9, 3) := by decide +kernel
theorem dX2_payingEnds_30 : decode cX2_payingEnds 30 = .ok (.iload_n 1, 1) := by decide +kernel
theorem dX2_payingEnds_31 : decode cX2_payingEnds 31 = .ok (.iconst 1, 1) := by decide +kernel
theorem dX2_payingEnds_32 : decode cX2_payingEnds 32 = .ok (.iload_n 2, 1) := by decide +kernel
theorem dX2_payingEnds_33 : decode cX2_payingEnds 33 = .ok (.ishl, 1) := by decide +kernel
theorem dX2_payingEnds_34 : decode cX2_payingEnds 34 = .ok (.ior, 1) := by decide +kernel
theorem dX2_payingEnds_35 : decode cX2_payingEnds 35 = .ok (.istore_n 1, 1) := by decide +kernel
theorem dX2_payingEnds_36 : decode cX2_payingEnds 36 = .ok (.iinc 2 1, 3) := by decide +kernel
theorem dX2_payingEnds_39 : decode cX2_payingEnds 39 = .ok (.goto (-35), 3) := by decide +kernel
theorem dX2_payingEnds_42 : decode cX2_payingEnds 42 = .ok (.iload_n 1, 1) := by decide +kernel
theorem dX2_payingEnds_43 : decode cX2_payingEnds 43 = .ok (.ireturn, 1) := by decide +kernel
theorem dX2_setWeight_0 : decode cX2_setWeight 0 = .ok (.aload_n 0, 1) := by decide +kernel
theorem dX2_setWeight_1 : decode cX2_setWeight 1 = .ok (.getfield 30, 3) := by decide +kernel
theorem dX2_setWeight_4 : decode cX2_setWeight 4 = .ok (.iload_n 1, 1) := by decide +kernel
theorem dX2_setWeight_5 : decode cX2_setWeight 5 = .ok (.iconst 3, 1) := by decide +kernel
theorem dX2_setWeight_6 : decode cX2_setWeight 6 = .ok (.imul, 1) := by decide +kernel
theorem dX2_setWeight_7 : decode cX2_setWeight 7 = .ok (.iload_n 2, 1) := by decide +kernel
theorem dX2_setWeight_8 : decode cX2_setWeight 8 = .ok (.iadd, 1) := by decide +kernel
theorem dX2_setWeight_9 : decode cX2_setWeight 9 = .ok (.iload_n 3, 1) := by decide +kernel
theorem dX2_setWeight_10 : decode cX2_setWeight 10 = .ok (.iastore, 1) := by decide +kernel
theorem dX2_setWeight_11 : decode cX2_setWeight 11 = .ok (.return_, 1) := by decide +kernel
theorem dX2_target_0 : decode cX2_target 0 = .ok (.aload_n 0, 1) := by decide +kernel
theorem dX2_target_1 : decode cX2_target 1 = .ok (.getfield 27, 3) := by decide +kernel
theorem dX2_target_4 : decode cX2_target 4 = .ok (.iload_n 1, 1) := by decide +kernel
theorem dX2_target_5 : decode cX2_target 5 = .ok (.iconst 3, 1) := by decide +kernel
theorem dX2_target_6 : decode cX2_target 6 = .ok (.imul, 1) := by decide +kernel
theorem dX2_target_7 : decode cX2_target 7 = .ok (.iload_n 2, 1) := by decide +kernel
theorem dX2_target_8 : decode cX2_target 8 = .ok (.iadd, 1) := by decide +kernel
theorem dX2_target_9 : decode cX2_target 9 = .ok (.iaload, 1) := by decide +kernel
theorem dX2_target_10 : decode cX2_target 10 = .ok (.ireturn, 1) := by decide +kernel
theorem dX2_together_0 : decode cX2_together 0 = .ok (.aload_n 0, 1) := by decide +kernel
theorem dX2_together_1 : decode cX2_together 1 = .ok (.getfield 9, 3) := by decide +kernel
theorem dX2_together_4 : decode cX2_together 4 = .ok (.iload_n 1, 1) := by decide +kernel
theorem dX2_together_5 : decode cX2_together 5 = .ok (.iaload, 1) := by decide +kernel
theorem dX2_together_6 : decode cX2_together 6 = .ok (.iconst 3, 1) := by decide +kernel
theorem dX2_together_7 : decode cX2_together 7 = .ok (.if_icmp .eq 5, 3) := by decide +kernel
theorem dX2_together_10 : decode cX2_together 10 = .ok (.iconst 1, 1) := by decide +kernel
theorem dX2_together_11 : decode cX2_together 11 = .ok (.ireturn, 1) := by decide +kernel
theorem dX2_together_12 : decode cX2_together 12 = .ok (.iconst 0, 1) := by decide +kernel
theorem dX2_together_13 : decode cX2_together 13 = .ok (.istore_n 2, 1) := by decide +kernel
theorem dX2_together_14 : decode cX2_together 14 = .ok (.iconst 0, 1) := by decide +kernel
theorem dX2_together_15 : decode cX2_together 15 = .ok (.istore_n 3, 1) := by decide +kernel
theorem dX2_together_16 : decode cX2_together 16 = .ok (.iload_n 3, 1) := by decide +kernel
theorem dX2_together_17 : decode cX2_together 17 = .ok (.aload_n 0, 1) := by decide +kernel
theorem dX2_together_18 : decode cX2_together 18 = .ok (.getfield 21, 3) := by decide +kernel
theorem dX2_together_21 : decode cX2_together 21 = .ok (.iload_n 1, 1) := by decide +kernel
theorem dX2_together_22 : decode cX2_together 22 = .ok (.iaload, 1) := by decide +kernel
theorem dX2_together_23 : decode cX2_together 23 = .ok (.if_icmp .ge 22, 3) := by decide +kernel
theorem dX2_together_26 : decode cX2_together 26 = .ok (.iload_n 2, 1) := by decide +kernel
theorem dX2_together_27 : decode cX2_together 27 = .ok (.aload_n 0, 1) := by decide +kernel
theorem dX2_together_28 : decode cX2_together 28 = .ok (.getfield 30, 3) := by decide +kernel
theorem dX2_together_31 : decode cX2_together 31 = .ok (.iload_n 1, 1) := by decide +kernel
theorem dX2_together_32 : decode cX2_together 32 = .ok (.iconst 3, 1) := by decide +kernel
theorem dX2_together_33 : decode cX2_together 33 = .ok (.imul, 1) := by decide +kernel
theorem dX2_together_34 : decode cX2_together 34 = .ok (.iload_n 3, 1) := by decide +kernel
theorem dX2_together_35 : decode cX2_together 35 = .ok (.iadd, 1) := by decide +kernel
theorem dX2_together_36 : decode cX2_together 36 = .ok (.iaload, 1) := by decide +kernel
theorem dX2_together_37 : decode cX2_together 37 = .ok (.iadd, 1) := by decide +kernel
theorem dX2_together_38 : decode cX2_together 38 = .ok (.istore_n 2, 1) := by decide +kernel
theorem dX2_together_39 : decode cX2_together 39 = .ok (.iinc 3 1, 3) := by decide +kernel
theorem dX2_together_42 : decode cX2_together 42 = .ok (.goto (-26), 3) := by decide +kernel
theorem dX2_together_45 : decode cX2_together 45 = .ok (.iload_n 2, 1) := by decide +kernel
theorem dX2_together_46 : decode cX2_together 46 = .ok (.ireturn, 1) := by decide +kernel
theorem dX2_weight_0 : decode cX2_weight 0 = .ok (.aload_n 0, 1) := by decide +kernel
theorem dX2_weight_1 : decode cX2_weight 1 = .ok (.getfield 30, 3) := by decide +kernel
theorem dX2_weight_4 : decode cX2_weight 4 = .ok (.iload_n 1, 1) := by decide +kernel
theorem dX2_weight_5 : decode cX2_weight 5 = .ok (.iconst 3, 1) := by decide +kernel
theorem dX2_weight_6 : decode cX2_weight 6 = .ok (.imul, 1) := by decide +kernel
theorem dX2_weight_7 : decode cX2_weight 7 = .ok (.iload_n 2, 1) := by decide +kernel
theorem dX2_weight_8 : decode cX2_weight 8 = .ok (.iadd, 1) := by decide +kernel
theorem dX2_weight_9 : decode cX2_weight 9 = .ok (.iaload, 1) := by decide +kernel
theorem dX2_weight_10 : decode cX2_weight 10 = .ok (.ireturn, 1) := by decide +kernel
set_option maxHeartbeats 4000000 in
set_option maxRecDepth 100000 in
theorem c_X2_has (l : Launch) (D : va_G) (g : Nat → ClassId) (n : Nat) (p0 : Int32) (n_nodes : Int32) (n_kind : Nat) (n_pay : Nat) (n_name : Nat) (n_ways : Nat) (n_held : Nat) (n_targets : Nat) (n_weights : Nat) (h_n_nodes : 0 ≤ (n_nodes : Int32).toInt ∧ (n_nodes : Int32).toInt ≤ 12) : Met l yX2_has (.code yX2_has cX2_has 2 (some .boolean) :: wsL_law) ({ frames := 0, cells := 0, slots := 0, locals := 0 }) (va_Pc [.ref n, .int p0] (fun U => va_P D vwCl [(n, .inr (2, [.int n_nodes, .ref n_kind, .ref n_pay, .ref n_name, .ref n_ways, .ref n_held, .ref n_targets, .ref n_weights]))] U.heap ∧ va_K D vwCl (TY g) U)) (vp_Si (fun r => (0 ≤ (r : Int32).toInt ∧ (r : Int32).toInt ≤ 1) ∧ (¬ r = 0 → 0 ≤ (p0 : Int32).toInt ∧ (p0 : Int32).toInt ≤ 11))) 0 0 (fun _ => False) := by
  refine Met.ofW (cc := cX2_has) (maxL := 2) (ret := (some .boolean)) (by decide) rfl ?_
  intro p e s m args below meth c s₁ B hml hv
  obtain ⟨ha, hP, hK⟩ := hv
  have hx := B.exec
  have hb := B.bytes
  have hr := B.returns
  have hts0 := atoms_spec (ws := (.code yX2_has cX2_has 2 (some .boolean) :: wsL_law)) B.pre
  have hts : ∀ w ∈ wsL_law, w.before args s = true := fun w h => hts0 w (List.mem_cons_of_mem _ h)
  have hown : s.vm.findClass RX2 = some m.cls := findClass_of_methodNamed B.named
  have hlocks := B.notSynchronized
  have hP : va_P D vwCl [(n, .inr (2, [.int n_nodes, .ref n_kind, .ref n_pay, .ref n_name, .ref n_ways, .ref n_held, .ref n_targets, .ref n_weights]))] s.heap := hP
  refine W.eq (g2 := entryFrame m ([.ref n, .int p0] : List Value).toArray 2) (by rw [ha]) ?_
  have hl := lv_entry ([.ref n, .int p0]) (n := 2) (Nat.le_of_ble_eq_true rfl)
  rw [lg_entry_eq]
  generalize (lg_sl ([.ref n, .int p0]) ++ List.replicate (2 - (lg_sl ([.ref n, .int p0])).length) Slot.unset).toArray = ls at hl ⊢
  have hl : lv_has ls 2 [(0, .ref n), (1, .int p0)] := hl
  refine lv_iload_n hx hb dX2_has_0 rfl (lv_at hl 1 rfl) ?_
  refine lv_if_lt (tgt := 16) hx hb dX2_has_1 (by decide) (fun c_1 => ?_) (fun c_1 => ?_)
  · skip
    have c_1_i := Int32.lt_iff_toInt_lt.mp c_1
    have h_2 : (-2147483648) ≤ (p0 : Int32).toInt ∧ (p0 : Int32).toInt ≤ (-1) := by have q1 := tr_any p0; have q2 := (⟨by decide, by decide⟩ : 0 ≤ (0 : Int32).toInt ∧ (0 : Int32).toInt ≤ 0); omega
    refine lv_iconst (v := 0) hx hb dX2_has_16 (by decide) ?_
    exact W.zret (v := 0) hx hb hr (by decide) (fun t ht hW => ⟨0, rfl, ⟨(⟨by decide, by decide⟩ : 0 ≤ (0 : Int32).toInt ∧ (0 : Int32).toInt ≤ 1), (fun h => absurd rfl h)⟩, ht⟩) (fun _ h => nomatch h) dX2_has_17
  · skip
    have c_1_i := Int32.le_iff_toInt_le.mp (Int32.not_lt.mp c_1)
    have h_3 : 0 ≤ (p0 : Int32).toInt ∧ (p0 : Int32).toInt ≤ 2147483647 := by have q1 := tr_any p0; have q2 := (⟨by decide, by decide⟩ : 0 ≤ (0 : Int32).toInt ∧ (0 : Int32).toInt ≤ 0); omega
    refine lv_iload_n hx hb dX2_has_4 rfl (lv_at hl 1 rfl) ?_
    refine lv_aload_n hx hb dX2_has_5 rfl (lv_at hl 0 rfl) ?_
    refine va_get (D := D) (ci := 2) (v := .int n_nodes) (C := RX2) (T := TX2) (N := 8) hx hb hts inlX2 hown hK hP 0 rfl rfl 0 (by decide) (hts (Cond.fieldLink RX2 33 "ChanceRings$Net" "nodes" "I") qw_0) (fun _ h9 => h9) rfl dX2_has_6 ?_
    refine lv_icmp_ge (tgt := 16) hx hb dX2_has_9 (by decide) (fun c_4 => ?_) (fun c_4 => ?_)
    · skip
      refine lv_iconst (v := 0) hx hb dX2_has_16 (by decide) ?_
      exact W.zret (v := 0) hx hb hr (by decide) (fun t ht hW => ⟨0, rfl, ⟨(⟨by decide, by decide⟩ : 0 ≤ (0 : Int32).toInt ∧ (0 : Int32).toInt ≤ 1), (fun h => absurd rfl h)⟩, ht⟩) (fun _ h => nomatch h) dX2_has_17
    · skip
      have c_4_i := Int32.lt_iff_toInt_lt.mp (Int32.not_le.mp c_4)
      have h_5 : 0 ≤ (p0 : Int32).toInt ∧ (p0 : Int32).toInt ≤ 11 := by have q1 := h_3; have q2 := h_n_nodes; omega
      have h_6 : 1 ≤ (n_nodes : Int32).toInt ∧ (n_nodes : Int32).toInt ≤ 12 := by have q1 := h_3; have q2 := h_n_nodes; omega
      refine lv_iconst (v := 1) hx hb dX2_has_12 (by decide) ?_
      refine lv_goto (tgt := 17) hx hb dX2_has_13 (by decide) ?_
      exact W.zret (v := 1) hx hb hr (by decide) (fun t ht hW => ⟨1, rfl, ⟨(⟨by decide, by decide⟩ : 0 ≤ (1 : Int32).toInt ∧ (1 : Int32).toInt ≤ 1), (fun _ => (tr_w h_5 (by decide) (by decide)))⟩, ht⟩) (fun _ h => nomatch h) dX2_has_17
set_option maxHeartbeats 4000000 in
set_option maxRecDepth 100000 in
theorem c_X2_canTake (l : Launch) (D : va_G) (g : Nat → ClassId) (n : Nat) (p0 : Int32) (p1 : Int32) (n_nodes : Int32) (n_kind : Nat) (n_pay : Nat) (n_name : Nat) (n_ways : Nat) (n_held : Nat) (n_targets : Nat) (n_weights : Nat) (n_fheld : Nat → Int32) (h_p0 : 0 ≤ (p0 : Int32).toInt ∧ (p0 : Int32).toInt ≤ 11) (h_n_nodes : 0 ≤ (n_nodes : Int32).toInt ∧ (n_nodes : Int32).toInt ≤ 12) (h_n_fheld : ∀ j : Nat, (-1) ≤ (n_fheld j).toInt ∧ (n_fheld j).toInt ≤ 2) : Met l yX2_canTake (.code yX2_canTake cX2_canTake 3 (some .boolean) :: wsL_law) ({ frames := 0, cells := 0, slots := 0, locals := 0 }) (va_Pc [.ref n, .int p0, .int p1] (fun U => va_P D vwCl [(n, .inr (2, [.int n_nodes, .ref n_kind, .ref n_pay, .ref n_name, .ref n_ways, .ref n_held, .ref n_targets, .ref n_weights])), (n_held, .inl (g 0, 12, .inl n_fheld))] U.heap ∧ va_K D vwCl (TY g) U)) (vp_Si (fun r => 0 ≤ (r : Int32).toInt ∧ (r : Int32).toInt ≤ 1)) 0 0 (fun _ => False) := by
  refine Met.ofW (cc := cX2_canTake) (maxL := 3) (ret := (some .boolean)) (by decide) rfl ?_
  intro p e s m args below meth c s₁ B hml hv
  obtain ⟨ha, hP, hK⟩ := hv
  have hx := B.exec
  have hb := B.bytes
  have hr := B.returns
  have hts0 := atoms_spec (ws := (.code yX2_canTake cX2_canTake 3 (some .boolean) :: wsL_law)) B.pre
  have hts : ∀ w ∈ wsL_law, w.before args s = true := fun w h => hts0 w (List.mem_cons_of_mem _ h)
  have hown : s.vm.findClass RX2 = some m.cls := findClass_of_methodNamed B.named
  have hlocks := B.notSynchronized
  have hP : va_P D vwCl [(n, .inr (2, [.int n_nodes, .ref n_kind, .ref n_pay, .ref n_name, .ref n_ways, .ref n_held, .ref n_targets, .ref n_weights])), (n_held, .inl (g 0, 12, .inl n_fheld))] s.heap := hP
  refine W.eq (g2 := entryFrame m ([.ref n, .int p0, .int p1] : List Value).toArray 3) (by rw [ha]) ?_
  have hl := lv_entry ([.ref n, .int p0, .int p1]) (n := 3) (Nat.le_of_ble_eq_true rfl)
  rw [lg_entry_eq]
  generalize (lg_sl ([.ref n, .int p0, .int p1]) ++ List.replicate (3 - (lg_sl ([.ref n, .int p0, .int p1])).length) Slot.unset).toArray = ls at hl ⊢
  have hl : lv_has ls 3 [(0, .ref n), (1, .int p0), (2, .int p1)] := hl
  refine lv_aload_n hx hb dX2_canTake_0 rfl (lv_at hl 0 rfl) ?_
  refine va_get (D := D) (ci := 2) (v := .ref n_held) (C := RX2) (T := TX2) (N := 8) hx hb hts inlX2 hown hK hP 0 rfl rfl 5 (by decide) (hts (Cond.fieldLink RX2 24 "ChanceRings$Net" "held" "[I") qw_1) (fun _ h9 => h9) rfl dX2_canTake_1 ?_
  refine lv_iload_n hx hb dX2_canTake_4 rfl (lv_at hl 1 rfl) ?_
  refine va_iald hx hb hK hP 1 0 rfl rfl (tr_in h_p0 (by decide) (by decide)) dX2_canTake_5 ?_
  refine lv_topi (fun v_7 v_7_e => ?_)
  have h_v_7 : (-1) ≤ (v_7 : Int32).toInt ∧ (v_7 : Int32).toInt ≤ 2 := by rw [v_7_e]; exact h_n_fheld _
  refine lv_iconst (v := (-1)) hx hb dX2_canTake_6 (by decide) ?_
  refine lv_icmp_eq (tgt := 20) hx hb dX2_canTake_7 (by decide) (fun c_8 => ?_) (fun c_8 => ?_)
  · skip
    have c_8_i := c_8
    have c_8_i : (v_7 : Int32).toInt = ((-1) : Int32).toInt := congrArg Int32.toInt c_8
    have h_9 : (-1) ≤ (v_7 : Int32).toInt ∧ (v_7 : Int32).toInt ≤ (-1) := by have q1 := h_v_7; have q2 := (⟨by decide, by decide⟩ : (-1) ≤ ((-1) : Int32).toInt ∧ ((-1) : Int32).toInt ≤ (-1)); omega
    refine lv_iconst (v := 1) hx hb dX2_canTake_20 (by decide) ?_
    refine lv_goto (tgt := 25) hx hb dX2_canTake_21 (by decide) ?_
    exact W.zret (v := 1) hx hb hr (by decide) (fun t ht hW => ⟨1, rfl, (⟨by decide, by decide⟩ : 0 ≤ (1 : Int32).toInt ∧ (1 : Int32).toInt ≤ 1), ht⟩) (fun _ h => nomatch h) dX2_canTake_25
  · skip
    have c_8_i := c_8
    have c_8_i : ¬ (v_7 : Int32).toInt = ((-1) : Int32).toInt := (fun q => c_8 (Int32.toInt_inj.mp q))
    have h_10 : 0 ≤ (v_7 : Int32).toInt ∧ (v_7 : Int32).toInt ≤ 2 := by have q1 := h_v_7; have q2 := (⟨by decide, by decide⟩ : (-1) ≤ ((-1) : Int32).toInt ∧ ((-1) : Int32).toInt ≤ (-1)); omega
    refine lv_aload_n hx hb dX2_canTake_10 rfl (lv_at hl 0 rfl) ?_
    refine va_get (D := D) (ci := 2) (v := .ref n_held) (C := RX2) (T := TX2) (N := 8) hx hb hts inlX2 hown hK hP 0 rfl rfl 5 (by decide) (hts (Cond.fieldLink RX2 24 "ChanceRings$Net" "held" "[I") qw_1) (fun _ h9 => h9) rfl dX2_canTake_11 ?_
    refine lv_iload_n hx hb dX2_canTake_14 rfl (lv_at hl 1 rfl) ?_
    refine va_iald hx hb hK hP 1 0 rfl rfl (tr_in h_p0 (by decide) (by decide)) dX2_canTake_15 ?_
    refine tz_i (y := v_7) v_7_e.symm ?_
    refine lv_iload_n hx hb dX2_canTake_16 rfl (lv_at hl 2 rfl) ?_
    refine lv_icmp_ne (tgt := 24) hx hb dX2_canTake_17 (by decide) (fun c_11 => ?_) (fun c_11 => ?_)
    · skip
      refine lv_iconst (v := 0) hx hb dX2_canTake_24 (by decide) ?_
      exact W.zret (v := 0) hx hb hr (by decide) (fun t ht hW => ⟨0, rfl, (⟨by decide, by decide⟩ : 0 ≤ (0 : Int32).toInt ∧ (0 : Int32).toInt ≤ 1), ht⟩) (fun _ h => nomatch h) dX2_canTake_25
    · skip
      refine lv_iconst (v := 1) hx hb dX2_canTake_20 (by decide) ?_
      refine lv_goto (tgt := 25) hx hb dX2_canTake_21 (by decide) ?_
      exact W.zret (v := 1) hx hb hr (by decide) (fun t ht hW => ⟨1, rfl, (⟨by decide, by decide⟩ : 0 ≤ (1 : Int32).toInt ∧ (1 : Int32).toInt ≤ 1), ht⟩) (fun _ h => nomatch h) dX2_canTake_25
set_option maxHeartbeats 4000000 in
set_option maxRecDepth 100000 in
theorem c_X2_target (l : Launch) (D : va_G) (g : Nat → ClassId) (n : Nat) (p0 : Int32) (p1 : Int32) (n_nodes : Int32) (n_kind : Nat) (n_pay : Nat) (n_name : Nat) (n_ways : Nat) (n_held : Nat) (n_targets : Nat) (n_weights : Nat) (n_ftargets : Nat → Int32) (h_p0 : 0 ≤ (p0 : Int32).toInt ∧ (p0 : Int32).toInt ≤ 11) (h_p1 : 0 ≤ (p1 : Int32).toInt ∧ (p1 : Int32).toInt ≤ 2) (h_n_nodes : 0 ≤ (n_nodes : Int32).toInt ∧ (n_nodes : Int32).toInt ≤ 12) (h_n_ftargets : ∀ j : Nat, 0 ≤ (n_ftargets j).toInt ∧ (n_ftargets j).toInt ≤ 11) : Met l yX2_target (.code yX2_target cX2_target 3 (some .int) :: wsL_law) ({ frames := 0, cells := 0, slots := 0, locals := 0 }) (va_Pc [.ref n, .int p0, .int p1] (fun U => va_P D vwCl [(n, .inr (2, [.int n_nodes, .ref n_kind, .ref n_pay, .ref n_name, .ref n_ways, .ref n_held, .ref n_targets, .ref n_weights])), (n_targets, .inl (g 0, 36, .inl n_ftargets))] U.heap ∧ va_K D vwCl (TY g) U)) (vp_Si (fun r => 0 ≤ (r : Int32).toInt ∧ (r : Int32).toInt ≤ 11)) 0 0 (fun _ => False) := by
  refine Met.ofW (cc := cX2_target) (maxL := 3) (ret := (some .int)) (by decide) rfl ?_
  intro p e s m args below meth c s₁ B hml hv
  obtain ⟨ha, hP, hK⟩ := hv
  have hx := B.exec
  have hb := B.bytes
  have hr := B.returns
  have hts0 := atoms_spec (ws := (.code yX2_target cX2_target 3 (some .int) :: wsL_law)) B.pre
  have hts : ∀ w ∈ wsL_law, w.before args s = true := fun w h => hts0 w (List.mem_cons_of_mem _ h)
  have hown : s.vm.findClass RX2 = some m.cls := findClass_of_methodNamed B.named
  have hlocks := B.notSynchronized
  have hP : va_P D vwCl [(n, .inr (2, [.int n_nodes, .ref n_kind, .ref n_pay, .ref n_name, .ref n_ways, .ref n_held, .ref n_targets, .ref n_weights])), (n_targets, .inl (g 0, 36, .inl n_ftargets))] s.heap := hP
  refine W.eq (g2 := entryFrame m ([.ref n, .int p0, .int p1] : List Value).toArray 3) (by rw [ha]) ?_
  have hl := lv_entry ([.ref n, .int p0, .int p1]) (n := 3) (Nat.le_of_ble_eq_true rfl)
  rw [lg_entry_eq]
  generalize (lg_sl ([.ref n, .int p0, .int p1]) ++ List.replicate (3 - (lg_sl ([.ref n, .int p0, .int p1])).length) Slot.unset).toArray = ls at hl ⊢
  have hl : lv_has ls 3 [(0, .ref n), (1, .int p0), (2, .int p1)] := hl
  refine lv_aload_n hx hb dX2_target_0 rfl (lv_at hl 0 rfl) ?_
  refine va_get (D := D) (ci := 2) (v := .ref n_targets) (C := RX2) (T := TX2) (N := 8) hx hb hts inlX2 hown hK hP 0 rfl rfl 6 (by decide) (hts (Cond.fieldLink RX2 27 "ChanceRings$Net" "targets" "[I") qw_2) (fun _ h9 => h9) rfl dX2_target_1 ?_
  refine lv_iload_n hx hb dX2_target_4 rfl (lv_at hl 1 rfl) ?_
  refine lv_iconst (v := 3) hx hb dX2_target_5 (by decide) ?_
  refine lv_imul hx hb dX2_target_6 ?_
  refine lv_topi (fun v_12 v_12_e => ?_)
  have h_v_12 : 0 ≤ (v_12 : Int32).toInt ∧ (v_12 : Int32).toInt ≤ 33 := by rw [v_12_e]; exact tr_mul h_p0 (⟨by decide, by decide⟩ : 3 ≤ (3 : Int32).toInt ∧ (3 : Int32).toInt ≤ 3) (by decide) (by decide) (by decide) (by decide)
  refine lv_iload_n hx hb dX2_target_7 rfl (lv_at hl 2 rfl) ?_
  refine lv_iadd hx hb dX2_target_8 ?_
  refine lv_topi (fun v_13 v_13_e => ?_)
  have h_v_13 : 0 ≤ (v_13 : Int32).toInt ∧ (v_13 : Int32).toInt ≤ 35 := by rw [v_13_e]; exact tr_add h_v_12 h_p1 (by decide) (by decide) (by decide) (by decide)
  refine va_iald hx hb hK hP 1 0 rfl rfl (tr_in h_v_13 (by decide) (by decide)) dX2_target_9 ?_
  refine lv_topi (fun v_14 v_14_e => ?_)
  have h_v_14 : 0 ≤ (v_14 : Int32).toInt ∧ (v_14 : Int32).toInt ≤ 11 := by rw [v_14_e]; exact h_n_ftargets _
  exact W.iret (v := v_14) hx hb hr (fun t ht hW => ⟨v_14, rfl, (tr_w h_v_14 (by decide) (by decide)), ht⟩) (fun _ h => nomatch h) dX2_target_10
set_option maxHeartbeats 4000000 in
set_option maxRecDepth 100000 in
theorem c_X2_payingEnds (l : Launch) (D : va_G) (g : Nat → ClassId) (n : Nat) (n_nodes : Int32) (n_kind : Nat) (n_pay : Nat) (n_name : Nat) (n_ways : Nat) (n_held : Nat) (n_targets : Nat) (n_weights : Nat) (n_fkind : Nat → Int32) (n_fpay : Nat → Int32) (h_n_nodes : 0 ≤ (n_nodes : Int32).toInt ∧ (n_nodes : Int32).toInt ≤ 12) (h_n_fkind : ∀ j : Nat, 0 ≤ (n_fkind j).toInt ∧ (n_fkind j).toInt ≤ 3) : Met l yX2_payingEnds (.code yX2_payingEnds cX2_payingEnds 3 (some .int) :: wsL_law) ({ frames := 0, cells := 0, slots := 0, locals := 0 }) (va_Pc [.ref n] (fun U => va_P D vwCl [(n, .inr (2, [.int n_nodes, .ref n_kind, .ref n_pay, .ref n_name, .ref n_ways, .ref n_held, .ref n_targets, .ref n_weights])), (n_kind, .inl (g 0, 12, .inl n_fkind)), (n_pay, .inl (g 0, 12, .inl n_fpay))] U.heap ∧ va_K D vwCl (TY g) U)) (vp_Si (fun r => True)) 0 0 (fun _ => False) := by
  refine Met.ofW (cc := cX2_payingEnds) (maxL := 3) (ret := (some .int)) (by decide) rfl ?_
  intro p e s m args below meth c s₁ B hml hv
  obtain ⟨ha, hP, hK⟩ := hv
  have hx := B.exec
  have hb := B.bytes
  have hr := B.returns
  have hts0 := atoms_spec (ws := (.code yX2_payingEnds cX2_payingEnds 3 (some .int) :: wsL_law)) B.pre
  have hts : ∀ w ∈ wsL_law, w.before args s = true := fun w h => hts0 w (List.mem_cons_of_mem _ h)
  have hown : s.vm.findClass RX2 = some m.cls := findClass_of_methodNamed B.named
  have hlocks := B.notSynchronized
  have hP : va_P D vwCl [(n, .inr (2, [.int n_nodes, .ref n_kind, .ref n_pay, .ref n_name, .ref n_ways, .ref n_held, .ref n_targets, .ref n_weights])), (n_kind, .inl (g 0, 12, .inl n_fkind)), (n_pay, .inl (g 0, 12, .inl n_fpay))] s.heap := hP
  refine W.eq (g2 := entryFrame m ([.ref n] : List Value).toArray 3) (by rw [ha]) ?_
  have hl := lv_entry ([.ref n]) (n := 3) (Nat.le_of_ble_eq_true rfl)
  rw [lg_entry_eq]
  generalize (lg_sl ([.ref n]) ++ List.replicate (3 - (lg_sl ([.ref n])).length) Slot.unset).toArray = ls at hl ⊢
  have hl : lv_has ls 3 [(0, .ref n)] := hl
  refine lv_iconst (v := 0) hx hb dX2_payingEnds_0 (by decide) ?_
  refine lv_istore_n (lv' := [(1, .int 0), (0, .ref n)]) hx hb dX2_payingEnds_1 rfl hl (by decide) rfl (fun ls hl => ?_)
  refine lv_iconst (v := 0) hx hb dX2_payingEnds_2 (by decide) ?_
  refine lv_istore_n (lv' := [(2, .int 0), (1, .int 0), (0, .ref n)]) hx hb dX2_payingEnds_3 rfl hl (by decide) rfl (fun ls hl => ?_)
  have lp_154 : ∀ (n_154 : Nat) (x_152 : Int32) (x_153 : Int32) (ls : Array Slot), (0 ≤ (x_152 : Int32).toInt ∧ (x_152 : Int32).toInt ≤ 12) → (12 - x_152.toInt < (n_154 : Int)) → lv_has ls 3 [(2, .int x_152), (1, .int x_153), (0, .ref n)] → W p l e (headSpec (.code yX2_payingEnds cX2_payingEnds 3 (some .int) :: wsL_law) ({ frames := 0, cells := 0, slots := 0, locals := 0 })).room s m args below meth c s.heap [] 0 0 (MQ below (vp_Si (fun r => True)) args s 0 0 (fun _ => False)) (F0 m 4 ls []) := by
    intro n_154
    induction n_154 with
    | zero =>
      intro x_152 x_153 ls h_x_152 hm_154 hl
      exfalso; omega
    | succ n_154 ih_154 =>
      intro x_152 x_153 ls h_x_152 hm_154 hl
      refine lv_iload_n hx hb dX2_payingEnds_4 rfl (lv_at hl 0 rfl) ?_
      refine lv_aload_n hx hb dX2_payingEnds_5 rfl (lv_at hl 2 rfl) ?_
      refine va_get (D := D) (ci := 2) (v := .int n_nodes) (C := RX2) (T := TX2) (N := 8) hx hb hts inlX2 hown hK hP 0 rfl rfl 0 (by decide) (hts (Cond.fieldLink RX2 33 "ChanceRings$Net" "nodes" "I") qw_0) (fun _ h9 => h9) rfl dX2_payingEnds_6 ?_
      refine lv_icmp_ge (tgt := 42) hx hb dX2_payingEnds_9 (by decide) (fun c_155 => ?_) (fun c_155 => ?_)
      · skip
        refine lv_iload_n hx hb dX2_payingEnds_42 rfl (lv_at hl 1 rfl) ?_
        exact W.iret (v := x_153) hx hb hr (fun t ht hW => ⟨x_153, rfl, trivial, ht⟩) (fun _ h => nomatch h) dX2_payingEnds_43
      · skip
        have c_155_i := Int32.lt_iff_toInt_lt.mp (Int32.not_le.mp c_155)
        have h_156 : 0 ≤ (x_152 : Int32).toInt ∧ (x_152 : Int32).toInt ≤ 11 := by have q1 := h_x_152; have q2 := h_n_nodes; omega
        have h_157 : 1 ≤ (n_nodes : Int32).toInt ∧ (n_nodes : Int32).toInt ≤ 12 := by have q1 := h_x_152; have q2 := h_n_nodes; omega
        refine lv_aload_n hx hb dX2_payingEnds_12 rfl (lv_at hl 2 rfl) ?_
        refine va_get (D := D) (ci := 2) (v := .ref n_kind) (C := RX2) (T := TX2) (N := 8) hx hb hts inlX2 hown hK hP 0 rfl rfl 1 (by decide) (hts (Cond.fieldLink RX2 9 "ChanceRings$Net" "kind" "[I") qw_3) (fun _ h9 => h9) rfl dX2_payingEnds_13 ?_
        refine lv_iload_n hx hb dX2_payingEnds_16 rfl (lv_at hl 0 rfl) ?_
        refine va_iald hx hb hK hP 1 0 rfl rfl (tr_in h_156 (by decide) (by decide)) dX2_payingEnds_17 ?_
        refine lv_topi (fun v_158 v_158_e => ?_)
        have h_v_158 : 0 ≤ (v_158 : Int32).toInt ∧ (v_158 : Int32).toInt ≤ 3 := by rw [v_158_e]; exact h_n_fkind _
        refine lv_if_ne (tgt := 36) hx hb dX2_payingEnds_18 (by decide) (fun c_159 => ?_) (fun c_159 => ?_)
        · skip
          have c_159_i := c_159
          have c_159_i : ¬ (v_158 : Int32).toInt = (0 : Int32).toInt := (fun q => c_159 (Int32.toInt_inj.mp q))
          have h_160 : 1 ≤ (v_158 : Int32).toInt ∧ (v_158 : Int32).toInt ≤ 3 := by have q1 := h_v_158; have q2 := (⟨by decide, by decide⟩ : 0 ≤ (0 : Int32).toInt ∧ (0 : Int32).toInt ≤ 0); omega
          obtain ⟨v_162, v_162_e⟩ : ∃ y : Int32, y = x_152 + Int32.ofInt 1 := ⟨_, rfl⟩
          have h_v_162 : 1 ≤ (v_162 : Int32).toInt ∧ (v_162 : Int32).toInt ≤ 12 := by rw [v_162_e]; exact tr_add h_156 (⟨by decide, by decide⟩ : 1 ≤ (Int32.ofInt 1 : Int32).toInt ∧ (Int32.ofInt 1 : Int32).toInt ≤ 1) (by decide) (by decide) (by decide) (by decide)
          have q_v_162 : v_162.toInt = x_152.toInt + 1 := by rw [v_162_e]; exact tr_addE h_156 (⟨by decide, by decide⟩ : 1 ≤ (Int32.ofInt 1 : Int32).toInt ∧ (Int32.ofInt 1 : Int32).toInt ≤ 1) (by decide) (by decide)
          refine lv_iinc (v := v_162) (lv' := [(2, .int v_162), (1, .int x_153), (0, .ref n)]) hx hb dX2_payingEnds_36 hl (k := 0) rfl v_162_e.symm (by decide) rfl (fun ls hl => ?_)
          refine lv_goto (tgt := 4) hx hb dX2_payingEnds_39 (by decide) ?_
          exact ih_154 v_162 x_153 ls (tr_w h_v_162 (by decide) (by decide)) (by omega) (lv_sub hl [0, 1, 2] rfl)
        · skip
          have c_159_i := c_159
          have c_159_i : (v_158 : Int32).toInt = (0 : Int32).toInt := congrArg Int32.toInt c_159
          have h_161 : 0 ≤ (v_158 : Int32).toInt ∧ (v_158 : Int32).toInt ≤ 0 := by have q1 := h_v_158; have q2 := (⟨by decide, by decide⟩ : 0 ≤ (0 : Int32).toInt ∧ (0 : Int32).toInt ≤ 0); omega
          refine lv_aload_n hx hb dX2_payingEnds_21 rfl (lv_at hl 2 rfl) ?_
          refine va_get (D := D) (ci := 2) (v := .ref n_pay) (C := RX2) (T := TX2) (N := 8) hx hb hts inlX2 hown hK hP 0 rfl rfl 2 (by decide) (hts (Cond.fieldLink RX2 15 "ChanceRings$Net" "pay" "[I") qw_4) (fun _ h9 => h9) rfl dX2_payingEnds_22 ?_
          refine lv_iload_n hx hb dX2_payingEnds_25 rfl (lv_at hl 0 rfl) ?_
          refine va_iald hx hb hK hP 2 0 rfl rfl (tr_in h_156 (by decide) (by decide)) dX2_payingEnds_26 ?_
          refine lv_topi (fun v_163 v_163_e => ?_)
          refine lv_if_le (tgt := 36) hx hb dX2_payingEnds_27 (by decide) (fun c_164 => ?_) (fun c_164 => ?_)
          · skip
            have c_164_i := Int32.le_iff_toInt_le.mp c_164
            have h_165 : (-2147483648) ≤ (v_163 : Int32).toInt ∧ (v_163 : Int32).toInt ≤ 0 := by have q1 := tr_any v_163; have q2 := (⟨by decide, by decide⟩ : 0 ≤ (0 : Int32).toInt ∧ (0 : Int32).toInt ≤ 0); omega
            obtain ⟨v_167, v_167_e⟩ : ∃ y : Int32, y = x_152 + Int32.ofInt 1 := ⟨_, rfl⟩
            have h_v_167 : 1 ≤ (v_167 : Int32).toInt ∧ (v_167 : Int32).toInt ≤ 12 := by rw [v_167_e]; exact tr_add h_156 (⟨by decide, by decide⟩ : 1 ≤ (Int32.ofInt 1 : Int32).toInt ∧ (Int32.ofInt 1 : Int32).toInt ≤ 1) (by decide) (by decide) (by decide) (by decide)
            have q_v_167 : v_167.toInt = x_152.toInt + 1 := by rw [v_167_e]; exact tr_addE h_156 (⟨by decide, by decide⟩ : 1 ≤ (Int32.ofInt 1 : Int32).toInt ∧ (Int32.ofInt 1 : Int32).toInt ≤ 1) (by decide) (by decide)
            refine lv_iinc (v := v_167) (lv' := [(2, .int v_167), (1, .int x_153), (0, .ref n)]) hx hb dX2_payingEnds_36 hl (k := 0) rfl v_167_e.symm (by decide) rfl (fun ls hl => ?_)
            refine lv_goto (tgt := 4) hx hb dX2_payingEnds_39 (by decide) ?_
            exact ih_154 v_167 x_153 ls (tr_w h_v_167 (by decide) (by decide)) (by omega) (lv_sub hl [0, 1, 2] rfl)
          · skip
            have c_164_i := Int32.lt_iff_toInt_lt.mp (Int32.not_le.mp c_164)
            have h_166 : 1 ≤ (v_163 : Int32).toInt ∧ (v_163 : Int32).toInt ≤ 2147483647 := by have q1 := tr_any v_163; have q2 := (⟨by decide, by decide⟩ : 0 ≤ (0 : Int32).toInt ∧ (0 : Int32).toInt ≤ 0); omega
            refine lv_iload_n hx hb dX2_payingEnds_30 rfl (lv_at hl 1 rfl) ?_
            refine lv_iconst (v := 1) hx hb dX2_payingEnds_31 (by decide) ?_
            refine lv_iload_n hx hb dX2_payingEnds_32 rfl (lv_at hl 0 rfl) ?_
            refine lv_ishl hx hb dX2_payingEnds_33 ?_
            refine lv_topi (fun v_168 v_168_e => ?_)
            refine lv_ior hx hb dX2_payingEnds_34 ?_
            refine lv_topi (fun v_169 v_169_e => ?_)
            refine lv_istore_n (lv' := [(1, .int v_169), (2, .int x_152), (0, .ref n)]) hx hb dX2_payingEnds_35 rfl hl (by decide) rfl (fun ls hl => ?_)
            obtain ⟨v_170, v_170_e⟩ : ∃ y : Int32, y = x_152 + Int32.ofInt 1 := ⟨_, rfl⟩
            have h_v_170 : 1 ≤ (v_170 : Int32).toInt ∧ (v_170 : Int32).toInt ≤ 12 := by rw [v_170_e]; exact tr_add h_156 (⟨by decide, by decide⟩ : 1 ≤ (Int32.ofInt 1 : Int32).toInt ∧ (Int32.ofInt 1 : Int32).toInt ≤ 1) (by decide) (by decide) (by decide) (by decide)
            have q_v_170 : v_170.toInt = x_152.toInt + 1 := by rw [v_170_e]; exact tr_addE h_156 (⟨by decide, by decide⟩ : 1 ≤ (Int32.ofInt 1 : Int32).toInt ∧ (Int32.ofInt 1 : Int32).toInt ≤ 1) (by decide) (by decide)
            refine lv_iinc (v := v_170) (lv' := [(2, .int v_170), (1, .int v_169), (0, .ref n)]) hx hb dX2_payingEnds_36 hl (k := 1) rfl v_170_e.symm (by decide) rfl (fun ls hl => ?_)
            refine lv_goto (tgt := 4) hx hb dX2_payingEnds_39 (by decide) ?_
            exact ih_154 v_170 v_169 ls (tr_w h_v_170 (by decide) (by decide)) (by omega) (lv_sub hl [0, 1, 2] rfl)
  exact lp_154 13 0 0 ls (⟨by decide, by decide⟩ : 0 ≤ (0 : Int32).toInt ∧ (0 : Int32).toInt ≤ 12) (by decide) (lv_sub hl [0, 1, 2] rfl)
set_option maxHeartbeats 4000000 in
set_option maxRecDepth 100000 in
theorem c_X2_nextNodes (l : Launch) (D : va_G) (g : Nat → ClassId) (n : Nat) (p0 : Int32) (n_nodes : Int32) (n_kind : Nat) (n_pay : Nat) (n_name : Nat) (n_ways : Nat) (n_held : Nat) (n_targets : Nat) (n_weights : Nat) (n_fways : Nat → Int32) (n_fheld : Nat → Int32) (n_ftargets : Nat → Int32) (h_p0 : 0 ≤ (p0 : Int32).toInt ∧ (p0 : Int32).toInt ≤ 11) (h_n_nodes : 0 ≤ (n_nodes : Int32).toInt ∧ (n_nodes : Int32).toInt ≤ 12) (h_n_fways : ∀ j : Nat, 0 ≤ (n_fways j).toInt ∧ (n_fways j).toInt ≤ 3) (h_n_fheld : ∀ j : Nat, (-1) ≤ (n_fheld j).toInt ∧ (n_fheld j).toInt ≤ 2) (h_n_ftargets : ∀ j : Nat, 0 ≤ (n_ftargets j).toInt ∧ (n_ftargets j).toInt ≤ 11) : Met l yX2_nextNodes (.code yX2_nextNodes cX2_nextNodes 4 (some .int) :: wsL_law) ({ frames := 1, cells := 0, slots := 0, locals := 22 }) (va_Pc [.ref n, .int p0] (fun U => va_P D vwCl [(n, .inr (2, [.int n_nodes, .ref n_kind, .ref n_pay, .ref n_name, .ref n_ways, .ref n_held, .ref n_targets, .ref n_weights])), (n_ways, .inl (g 0, 12, .inl n_fways)), (n_held, .inl (g 0, 12, .inl n_fheld)), (n_targets, .inl (g 0, 36, .inl n_ftargets))] U.heap ∧ va_K D vwCl (TY g) U)) (vp_Si (fun r => True)) 0 0 (fun _ => False) := by
  refine Met.ofW (cc := cX2_nextNodes) (maxL := 4) (ret := (some .int)) (by decide) rfl ?_
  intro p e s m args below meth c s₁ B hml hv
  obtain ⟨ha, hP, hK⟩ := hv
  have hx := B.exec
  have hb := B.bytes
  have hr := B.returns
  have hts0 := atoms_spec (ws := (.code yX2_nextNodes cX2_nextNodes 4 (some .int) :: wsL_law)) B.pre
  have hts : ∀ w ∈ wsL_law, w.before args s = true := fun w h => hts0 w (List.mem_cons_of_mem _ h)
  have hown : s.vm.findClass RX2 = some m.cls := findClass_of_methodNamed B.named
  have hlocks := B.notSynchronized
  have hP : va_P D vwCl [(n, .inr (2, [.int n_nodes, .ref n_kind, .ref n_pay, .ref n_name, .ref n_ways, .ref n_held, .ref n_targets, .ref n_weights])), (n_ways, .inl (g 0, 12, .inl n_fways)), (n_held, .inl (g 0, 12, .inl n_fheld)), (n_targets, .inl (g 0, 36, .inl n_ftargets))] s.heap := hP
  refine W.eq (g2 := entryFrame m ([.ref n, .int p0] : List Value).toArray 4) (by rw [ha]) ?_
  have hl := lv_entry ([.ref n, .int p0]) (n := 4) (Nat.le_of_ble_eq_true rfl)
  rw [lg_entry_eq]
  generalize (lg_sl ([.ref n, .int p0]) ++ List.replicate (4 - (lg_sl ([.ref n, .int p0])).length) Slot.unset).toArray = ls at hl ⊢
  have hl : lv_has ls 4 [(0, .ref n), (1, .int p0)] := hl
  refine lv_iconst (v := 0) hx hb dX2_nextNodes_0 (by decide) ?_
  refine lv_istore_n (lv' := [(2, .int 0), (0, .ref n), (1, .int p0)]) hx hb dX2_nextNodes_1 rfl hl (by decide) rfl (fun ls hl => ?_)
  refine lv_iconst (v := 0) hx hb dX2_nextNodes_2 (by decide) ?_
  refine lv_istore_n (lv' := [(3, .int 0), (2, .int 0), (0, .ref n), (1, .int p0)]) hx hb dX2_nextNodes_3 rfl hl (by decide) rfl (fun ls hl => ?_)
  have lp_237 : ∀ (n_237 : Nat) (x_235 : Int32) (x_236 : Int32) (ls : Array Slot), (0 ≤ (x_235 : Int32).toInt ∧ (x_235 : Int32).toInt ≤ 3) → (3 - x_235.toInt < (n_237 : Int)) → lv_has ls 4 [(3, .int x_235), (2, .int x_236), (0, .ref n), (1, .int p0)] → W p l e (headSpec (.code yX2_nextNodes cX2_nextNodes 4 (some .int) :: wsL_law) ({ frames := 1, cells := 0, slots := 0, locals := 22 })).room s m args below meth c s.heap [] 0 0 (MQ below (vp_Si (fun r => True)) args s 0 0 (fun _ => False)) (F0 m 4 ls []) := by
    intro n_237
    induction n_237 with
    | zero =>
      intro x_235 x_236 ls h_x_235 hm_237 hl
      exfalso; omega
    | succ n_237 ih_237 =>
      intro x_235 x_236 ls h_x_235 hm_237 hl
      refine lv_iload_n hx hb dX2_nextNodes_4 rfl (lv_at hl 0 rfl) ?_
      refine lv_aload_n hx hb dX2_nextNodes_5 rfl (lv_at hl 2 rfl) ?_
      refine va_get (D := D) (ci := 2) (v := .ref n_ways) (C := RX2) (T := TX2) (N := 8) hx hb hts inlX2 hown hK hP 0 rfl rfl 4 (by decide) (hts (Cond.fieldLink RX2 21 "ChanceRings$Net" "ways" "[I") qw_5) (fun _ h9 => h9) rfl dX2_nextNodes_6 ?_
      refine lv_iload_n hx hb dX2_nextNodes_9 rfl (lv_at hl 3 rfl) ?_
      refine va_iald hx hb hK hP 1 0 rfl rfl (tr_in h_p0 (by decide) (by decide)) dX2_nextNodes_10 ?_
      refine lv_topi (fun v_238 v_238_e => ?_)
      have h_v_238 : 0 ≤ (v_238 : Int32).toInt ∧ (v_238 : Int32).toInt ≤ 3 := by rw [v_238_e]; exact h_n_fways _
      refine lv_icmp_ge (tgt := 40) hx hb dX2_nextNodes_11 (by decide) (fun c_239 => ?_) (fun c_239 => ?_)
      · skip
        refine lv_iload_n hx hb dX2_nextNodes_40 rfl (lv_at hl 1 rfl) ?_
        exact W.iret (v := x_236) hx hb hr (fun t ht hW => ⟨x_236, rfl, trivial, ht⟩) (fun _ h => nomatch h) dX2_nextNodes_41
      · skip
        have c_239_i := Int32.lt_iff_toInt_lt.mp (Int32.not_le.mp c_239)
        have h_240 : 0 ≤ (x_235 : Int32).toInt ∧ (x_235 : Int32).toInt ≤ 2 := by have q1 := h_x_235; have q2 := h_v_238; omega
        have h_241 : 1 ≤ (v_238 : Int32).toInt ∧ (v_238 : Int32).toInt ≤ 3 := by have q1 := h_x_235; have q2 := h_v_238; omega
        refine lv_aload_n hx hb dX2_nextNodes_14 rfl (lv_at hl 2 rfl) ?_
        refine lv_iload_n hx hb dX2_nextNodes_15 rfl (lv_at hl 3 rfl) ?_
        refine lv_iload_n hx hb dX2_nextNodes_16 rfl (lv_at hl 0 rfl) ?_
        have hPc := hP.sub (ws' := [(n, .inr (2, [.int n_nodes, .ref n_kind, .ref n_pay, .ref n_name, .ref n_ways, .ref n_held, .ref n_targets, .ref n_weights])), (n_held, .inl (g 0, 12, .inl n_fheld))]) [0, 2] rfl
        refine vp_callSi (va_Run.run (va_runV (As := [.int p0, .int x_235]) (rest := []) ⟨hx, hb, hml, hown, hts⟩ (c_X2_canTake l D g n p0 x_235 n_nodes n_kind n_pay n_name n_ways n_held n_targets n_weights n_fheld (tr_w h_p0 (by decide) (by decide)) (tr_w h_n_nodes (by decide) (by decide)) (tr_wa h_n_fheld (by decide) (by decide))) (cwV 2 hts (tz_gV qw_6 qw_7 qw_8 qw_9 qw_10) rfl rfl rfl (by decide +kernel) ⟨Nat.le_of_ble_eq_true rfl, Nat.le_of_ble_eq_true rfl⟩) ⟨tz_blS, va_recv hK hPc (ci := 2) (q0 := 0) rfl rfl, tz_preS hPc hK⟩ rfl rfl hl.1 rfl (lv_room (Nat.le_of_ble_eq_true rfl)) dX2_nextNodes_17 ⟨Nat.le_of_ble_eq_true rfl, Nat.le_of_ble_eq_true rfl⟩)) (fun r_242 hw => ?_)
        have hw_243 : 0 ≤ (r_242 : Int32).toInt ∧ (r_242 : Int32).toInt ≤ 1 := hw
        refine lv_if_eq (tgt := 34) hx hb dX2_nextNodes_20 (by decide) (fun c_244 => ?_) (fun c_244 => ?_)
        · skip
          have c_244_i := c_244
          have c_244_i : (r_242 : Int32).toInt = (0 : Int32).toInt := congrArg Int32.toInt c_244
          have h_245 : 0 ≤ (r_242 : Int32).toInt ∧ (r_242 : Int32).toInt ≤ 0 := by have q1 := hw_243; have q2 := (⟨by decide, by decide⟩ : 0 ≤ (0 : Int32).toInt ∧ (0 : Int32).toInt ≤ 0); omega
          obtain ⟨v_247, v_247_e⟩ : ∃ y : Int32, y = x_235 + Int32.ofInt 1 := ⟨_, rfl⟩
          have h_v_247 : 1 ≤ (v_247 : Int32).toInt ∧ (v_247 : Int32).toInt ≤ 3 := by rw [v_247_e]; exact tr_add h_240 (⟨by decide, by decide⟩ : 1 ≤ (Int32.ofInt 1 : Int32).toInt ∧ (Int32.ofInt 1 : Int32).toInt ≤ 1) (by decide) (by decide) (by decide) (by decide)
          have q_v_247 : v_247.toInt = x_235.toInt + 1 := by rw [v_247_e]; exact tr_addE h_240 (⟨by decide, by decide⟩ : 1 ≤ (Int32.ofInt 1 : Int32).toInt ∧ (Int32.ofInt 1 : Int32).toInt ≤ 1) (by decide) (by decide)
          refine lv_iinc (v := v_247) (lv' := [(3, .int v_247), (2, .int x_236), (0, .ref n), (1, .int p0)]) hx hb dX2_nextNodes_34 hl (k := 0) rfl v_247_e.symm (by decide) rfl (fun ls hl => ?_)
          refine lv_goto (tgt := 4) hx hb dX2_nextNodes_37 (by decide) ?_
          exact ih_237 v_247 x_236 ls (tr_w h_v_247 (by decide) (by decide)) (by omega) (lv_sub hl [0, 1, 2, 3] rfl)
        · skip
          have c_244_i := c_244
          have c_244_i : ¬ (r_242 : Int32).toInt = (0 : Int32).toInt := (fun q => c_244 (Int32.toInt_inj.mp q))
          have h_246 : 1 ≤ (r_242 : Int32).toInt ∧ (r_242 : Int32).toInt ≤ 1 := by have q1 := hw_243; have q2 := (⟨by decide, by decide⟩ : 0 ≤ (0 : Int32).toInt ∧ (0 : Int32).toInt ≤ 0); omega
          refine lv_iload_n hx hb dX2_nextNodes_23 rfl (lv_at hl 1 rfl) ?_
          refine lv_iconst (v := 1) hx hb dX2_nextNodes_24 (by decide) ?_
          refine lv_aload_n hx hb dX2_nextNodes_25 rfl (lv_at hl 2 rfl) ?_
          refine lv_iload_n hx hb dX2_nextNodes_26 rfl (lv_at hl 3 rfl) ?_
          refine lv_iload_n hx hb dX2_nextNodes_27 rfl (lv_at hl 0 rfl) ?_
          have hPc := hP.sub (ws' := [(n, .inr (2, [.int n_nodes, .ref n_kind, .ref n_pay, .ref n_name, .ref n_ways, .ref n_held, .ref n_targets, .ref n_weights])), (n_targets, .inl (g 0, 36, .inl n_ftargets))]) [0, 3] rfl
          refine vp_callSi (va_Run.run (va_runV (As := [.int p0, .int x_235]) (rest := [.int 1, .int x_236]) ⟨hx, hb, hml, hown, hts⟩ (c_X2_target l D g n p0 x_235 n_nodes n_kind n_pay n_name n_ways n_held n_targets n_weights n_ftargets (tr_w h_p0 (by decide) (by decide)) (tr_w h_240 (by decide) (by decide)) (tr_w h_n_nodes (by decide) (by decide)) (tr_wa h_n_ftargets (by decide) (by decide))) (cwV 2 hts (tz_gV qw_11 qw_12 qw_13 qw_9 qw_14) rfl rfl rfl (by decide +kernel) ⟨Nat.le_of_ble_eq_true rfl, Nat.le_of_ble_eq_true rfl⟩) ⟨tz_blS, va_recv hK hPc (ci := 2) (q0 := 0) rfl rfl, tz_preS hPc hK⟩ rfl rfl hl.1 rfl (lv_room (Nat.le_of_ble_eq_true rfl)) dX2_nextNodes_28 ⟨Nat.le_of_ble_eq_true rfl, Nat.le_of_ble_eq_true rfl⟩)) (fun r_248 hw => ?_)
          have hw_249 : 0 ≤ (r_248 : Int32).toInt ∧ (r_248 : Int32).toInt ≤ 11 := hw
          refine lv_ishl hx hb dX2_nextNodes_31 ?_
          refine lv_topi (fun v_250 v_250_e => ?_)
          refine lv_ior hx hb dX2_nextNodes_32 ?_
          refine lv_topi (fun v_251 v_251_e => ?_)
          refine lv_istore_n (lv' := [(2, .int v_251), (3, .int x_235), (0, .ref n), (1, .int p0)]) hx hb dX2_nextNodes_33 rfl hl (by decide) rfl (fun ls hl => ?_)
          obtain ⟨v_252, v_252_e⟩ : ∃ y : Int32, y = x_235 + Int32.ofInt 1 := ⟨_, rfl⟩
          have h_v_252 : 1 ≤ (v_252 : Int32).toInt ∧ (v_252 : Int32).toInt ≤ 3 := by rw [v_252_e]; exact tr_add h_240 (⟨by decide, by decide⟩ : 1 ≤ (Int32.ofInt 1 : Int32).toInt ∧ (Int32.ofInt 1 : Int32).toInt ≤ 1) (by decide) (by decide) (by decide) (by decide)
          have q_v_252 : v_252.toInt = x_235.toInt + 1 := by rw [v_252_e]; exact tr_addE h_240 (⟨by decide, by decide⟩ : 1 ≤ (Int32.ofInt 1 : Int32).toInt ∧ (Int32.ofInt 1 : Int32).toInt ≤ 1) (by decide) (by decide)
          refine lv_iinc (v := v_252) (lv' := [(3, .int v_252), (2, .int v_251), (0, .ref n), (1, .int p0)]) hx hb dX2_nextNodes_34 hl (k := 1) rfl v_252_e.symm (by decide) rfl (fun ls hl => ?_)
          refine lv_goto (tgt := 4) hx hb dX2_nextNodes_37 (by decide) ?_
          exact ih_237 v_252 v_251 ls (tr_w h_v_252 (by decide) (by decide)) (by omega) (lv_sub hl [0, 1, 2, 3] rfl)
  exact lp_237 4 0 0 ls (⟨by decide, by decide⟩ : 0 ≤ (0 : Int32).toInt ∧ (0 : Int32).toInt ≤ 3) (by decide) (lv_sub hl [0, 1, 2, 3] rfl)
set_option maxHeartbeats 4000000 in
set_option maxRecDepth 100000 in
theorem c_X2_hasWay (l : Launch) (D : va_G) (g : Nat → ClassId) (n : Nat) (p0 : Int32) (p1 : Int32) (n_nodes : Int32) (n_kind : Nat) (n_pay : Nat) (n_name : Nat) (n_ways : Nat) (n_held : Nat) (n_targets : Nat) (n_weights : Nat) (n_fways : Nat → Int32) (h_n_nodes : 0 ≤ (n_nodes : Int32).toInt ∧ (n_nodes : Int32).toInt ≤ 12) (h_n_fways : ∀ j : Nat, 0 ≤ (n_fways j).toInt ∧ (n_fways j).toInt ≤ 3) : Met l yX2_hasWay (.code yX2_hasWay cX2_hasWay 3 (some .boolean) :: wsL_law) ({ frames := 1, cells := 0, slots := 0, locals := 21 }) (va_Pc [.ref n, .int p0, .int p1] (fun U => va_P D vwCl [(n, .inr (2, [.int n_nodes, .ref n_kind, .ref n_pay, .ref n_name, .ref n_ways, .ref n_held, .ref n_targets, .ref n_weights])), (n_ways, .inl (g 0, 12, .inl n_fways))] U.heap ∧ va_K D vwCl (TY g) U)) (vp_Si (fun r => (0 ≤ (r : Int32).toInt ∧ (r : Int32).toInt ≤ 1) ∧ (¬ r = 0 → 0 ≤ (p0 : Int32).toInt ∧ (p0 : Int32).toInt ≤ 11))) 0 0 (fun _ => False) := by
  refine Met.ofW (cc := cX2_hasWay) (maxL := 3) (ret := (some .boolean)) (by decide) rfl ?_
  intro p e s m args below meth c s₁ B hml hv
  obtain ⟨ha, hP, hK⟩ := hv
  have hx := B.exec
  have hb := B.bytes
  have hr := B.returns
  have hts0 := atoms_spec (ws := (.code yX2_hasWay cX2_hasWay 3 (some .boolean) :: wsL_law)) B.pre
  have hts : ∀ w ∈ wsL_law, w.before args s = true := fun w h => hts0 w (List.mem_cons_of_mem _ h)
  have hown : s.vm.findClass RX2 = some m.cls := findClass_of_methodNamed B.named
  have hlocks := B.notSynchronized
  have hP : va_P D vwCl [(n, .inr (2, [.int n_nodes, .ref n_kind, .ref n_pay, .ref n_name, .ref n_ways, .ref n_held, .ref n_targets, .ref n_weights])), (n_ways, .inl (g 0, 12, .inl n_fways))] s.heap := hP
  refine W.eq (g2 := entryFrame m ([.ref n, .int p0, .int p1] : List Value).toArray 3) (by rw [ha]) ?_
  have hl := lv_entry ([.ref n, .int p0, .int p1]) (n := 3) (Nat.le_of_ble_eq_true rfl)
  rw [lg_entry_eq]
  generalize (lg_sl ([.ref n, .int p0, .int p1]) ++ List.replicate (3 - (lg_sl ([.ref n, .int p0, .int p1])).length) Slot.unset).toArray = ls at hl ⊢
  have hl : lv_has ls 3 [(0, .ref n), (1, .int p0), (2, .int p1)] := hl
  refine lv_aload_n hx hb dX2_hasWay_0 rfl (lv_at hl 0 rfl) ?_
  refine lv_iload_n hx hb dX2_hasWay_1 rfl (lv_at hl 1 rfl) ?_
  have hPc := hP.sub (ws' := [(n, .inr (2, [.int n_nodes, .ref n_kind, .ref n_pay, .ref n_name, .ref n_ways, .ref n_held, .ref n_targets, .ref n_weights]))]) [0] rfl
  refine vp_callSi (va_Run.run (va_runV (As := [.int p0]) (rest := []) ⟨hx, hb, hml, hown, hts⟩ (c_X2_has l D g n p0 n_nodes n_kind n_pay n_name n_ways n_held n_targets n_weights (tr_w h_n_nodes (by decide) (by decide))) (cwV 1 hts (tz_gV qw_15 qw_16 qw_17 qw_9 qw_18) rfl rfl rfl (by decide +kernel) ⟨Nat.le_of_ble_eq_true rfl, Nat.le_of_ble_eq_true rfl⟩) ⟨tz_blS, va_recv hK hPc (ci := 2) (q0 := 0) rfl rfl, tz_preS hPc hK⟩ rfl rfl hl.1 rfl (lv_room (Nat.le_of_ble_eq_true rfl)) dX2_hasWay_2 ⟨Nat.le_of_ble_eq_true rfl, Nat.le_of_ble_eq_true rfl⟩)) (fun r_253 hw => ?_)
  have hw_254 : 0 ≤ (r_253 : Int32).toInt ∧ (r_253 : Int32).toInt ≤ 1 := hw.1
  have hw_254_m : ¬ r_253 = 0 → 0 ≤ (p0 : Int32).toInt ∧ (p0 : Int32).toInt ≤ 11 := hw.2
  refine lv_if_eq (tgt := 26) hx hb dX2_hasWay_5 (by decide) (fun c_255 => ?_) (fun c_255 => ?_)
  · skip
    have c_255_i := c_255
    have c_255_i : (r_253 : Int32).toInt = (0 : Int32).toInt := congrArg Int32.toInt c_255
    have h_256 : 0 ≤ (r_253 : Int32).toInt ∧ (r_253 : Int32).toInt ≤ 0 := by have q1 := hw_254; have q2 := (⟨by decide, by decide⟩ : 0 ≤ (0 : Int32).toInt ∧ (0 : Int32).toInt ≤ 0); omega
    refine lv_iconst (v := 0) hx hb dX2_hasWay_26 (by decide) ?_
    exact W.zret (v := 0) hx hb hr (by decide) (fun t ht hW => ⟨0, rfl, ⟨(⟨by decide, by decide⟩ : 0 ≤ (0 : Int32).toInt ∧ (0 : Int32).toInt ≤ 1), (fun h => absurd rfl h)⟩, ht⟩) (fun _ h => nomatch h) dX2_hasWay_27
  · skip
    have h_257 := hw_254_m c_255
    have c_255_i := c_255
    have c_255_i : ¬ (r_253 : Int32).toInt = (0 : Int32).toInt := (fun q => c_255 (Int32.toInt_inj.mp q))
    have h_258 : 1 ≤ (r_253 : Int32).toInt ∧ (r_253 : Int32).toInt ≤ 1 := by have q1 := hw_254; have q2 := (⟨by decide, by decide⟩ : 0 ≤ (0 : Int32).toInt ∧ (0 : Int32).toInt ≤ 0); omega
    refine lv_iload_n hx hb dX2_hasWay_8 rfl (lv_at hl 2 rfl) ?_
    refine lv_if_lt (tgt := 26) hx hb dX2_hasWay_9 (by decide) (fun c_259 => ?_) (fun c_259 => ?_)
    · skip
      have c_259_i := Int32.lt_iff_toInt_lt.mp c_259
      have h_260 : (-2147483648) ≤ (p1 : Int32).toInt ∧ (p1 : Int32).toInt ≤ (-1) := by have q1 := tr_any p1; have q2 := (⟨by decide, by decide⟩ : 0 ≤ (0 : Int32).toInt ∧ (0 : Int32).toInt ≤ 0); omega
      refine lv_iconst (v := 0) hx hb dX2_hasWay_26 (by decide) ?_
      exact W.zret (v := 0) hx hb hr (by decide) (fun t ht hW => ⟨0, rfl, ⟨(⟨by decide, by decide⟩ : 0 ≤ (0 : Int32).toInt ∧ (0 : Int32).toInt ≤ 1), (fun h => absurd rfl h)⟩, ht⟩) (fun _ h => nomatch h) dX2_hasWay_27
    · skip
      have c_259_i := Int32.le_iff_toInt_le.mp (Int32.not_lt.mp c_259)
      have h_261 : 0 ≤ (p1 : Int32).toInt ∧ (p1 : Int32).toInt ≤ 2147483647 := by have q1 := tr_any p1; have q2 := (⟨by decide, by decide⟩ : 0 ≤ (0 : Int32).toInt ∧ (0 : Int32).toInt ≤ 0); omega
      refine lv_iload_n hx hb dX2_hasWay_12 rfl (lv_at hl 2 rfl) ?_
      refine lv_aload_n hx hb dX2_hasWay_13 rfl (lv_at hl 0 rfl) ?_
      refine va_get (D := D) (ci := 2) (v := .ref n_ways) (C := RX2) (T := TX2) (N := 8) hx hb hts inlX2 hown hK hP 0 rfl rfl 4 (by decide) (hts (Cond.fieldLink RX2 21 "ChanceRings$Net" "ways" "[I") qw_5) (fun _ h9 => h9) rfl dX2_hasWay_14 ?_
      refine lv_iload_n hx hb dX2_hasWay_17 rfl (lv_at hl 1 rfl) ?_
      refine va_iald hx hb hK hP 1 0 rfl rfl (tr_in h_257 (by decide) (by decide)) dX2_hasWay_18 ?_
      refine lv_topi (fun v_262 v_262_e => ?_)
      have h_v_262 : 0 ≤ (v_262 : Int32).toInt ∧ (v_262 : Int32).toInt ≤ 3 := by rw [v_262_e]; exact h_n_fways _
      refine lv_icmp_ge (tgt := 26) hx hb dX2_hasWay_19 (by decide) (fun c_263 => ?_) (fun c_263 => ?_)
      · skip
        refine lv_iconst (v := 0) hx hb dX2_hasWay_26 (by decide) ?_
        exact W.zret (v := 0) hx hb hr (by decide) (fun t ht hW => ⟨0, rfl, ⟨(⟨by decide, by decide⟩ : 0 ≤ (0 : Int32).toInt ∧ (0 : Int32).toInt ≤ 1), (fun h => absurd rfl h)⟩, ht⟩) (fun _ h => nomatch h) dX2_hasWay_27
      · skip
        have c_263_i := Int32.lt_iff_toInt_lt.mp (Int32.not_le.mp c_263)
        have h_264 : 0 ≤ (p1 : Int32).toInt ∧ (p1 : Int32).toInt ≤ 2 := by have q1 := h_261; have q2 := h_v_262; omega
        have h_265 : 1 ≤ (v_262 : Int32).toInt ∧ (v_262 : Int32).toInt ≤ 3 := by have q1 := h_261; have q2 := h_v_262; omega
        refine lv_iconst (v := 1) hx hb dX2_hasWay_22 (by decide) ?_
        refine lv_goto (tgt := 27) hx hb dX2_hasWay_23 (by decide) ?_
        exact W.zret (v := 1) hx hb hr (by decide) (fun t ht hW => ⟨1, rfl, ⟨(⟨by decide, by decide⟩ : 0 ≤ (1 : Int32).toInt ∧ (1 : Int32).toInt ≤ 1), (fun _ => (tr_w h_257 (by decide) (by decide)))⟩, ht⟩) (fun _ h => nomatch h) dX2_hasWay_27
set_option maxHeartbeats 4000000 in
set_option maxRecDepth 100000 in
theorem c_X2_isChooser (l : Launch) (D : va_G) (g : Nat → ClassId) (n : Nat) (p0 : Int32) (n_nodes : Int32) (n_kind : Nat) (n_pay : Nat) (n_name : Nat) (n_ways : Nat) (n_held : Nat) (n_targets : Nat) (n_weights : Nat) (n_fkind : Nat → Int32) (h_n_nodes : 0 ≤ (n_nodes : Int32).toInt ∧ (n_nodes : Int32).toInt ≤ 12) (h_n_fkind : ∀ j : Nat, 0 ≤ (n_fkind j).toInt ∧ (n_fkind j).toInt ≤ 3) : Met l yX2_isChooser (.code yX2_isChooser cX2_isChooser 2 (some .boolean) :: wsL_law) ({ frames := 1, cells := 0, slots := 0, locals := 21 }) (va_Pc [.ref n, .int p0] (fun U => va_P D vwCl [(n, .inr (2, [.int n_nodes, .ref n_kind, .ref n_pay, .ref n_name, .ref n_ways, .ref n_held, .ref n_targets, .ref n_weights])), (n_kind, .inl (g 0, 12, .inl n_fkind))] U.heap ∧ va_K D vwCl (TY g) U)) (vp_Si (fun r => (0 ≤ (r : Int32).toInt ∧ (r : Int32).toInt ≤ 1) ∧ (¬ r = 0 → 0 ≤ (p0 : Int32).toInt ∧ (p0 : Int32).toInt ≤ 11))) 0 0 (fun _ => False) := by
  refine Met.ofW (cc := cX2_isChooser) (maxL := 2) (ret := (some .boolean)) (by decide) rfl ?_
  intro p e s m args below meth c s₁ B hml hv
  obtain ⟨ha, hP, hK⟩ := hv
  have hx := B.exec
  have hb := B.bytes
  have hr := B.returns
  have hts0 := atoms_spec (ws := (.code yX2_isChooser cX2_isChooser 2 (some .boolean) :: wsL_law)) B.pre
  have hts : ∀ w ∈ wsL_law, w.before args s = true := fun w h => hts0 w (List.mem_cons_of_mem _ h)
  have hown : s.vm.findClass RX2 = some m.cls := findClass_of_methodNamed B.named
  have hlocks := B.notSynchronized
  have hP : va_P D vwCl [(n, .inr (2, [.int n_nodes, .ref n_kind, .ref n_pay, .ref n_name, .ref n_ways, .ref n_held, .ref n_targets, .ref n_weights])), (n_kind, .inl (g 0, 12, .inl n_fkind))] s.heap := hP
  refine W.eq (g2 := entryFrame m ([.ref n, .int p0] : List Value).toArray 2) (by rw [ha]) ?_
  have hl := lv_entry ([.ref n, .int p0]) (n := 2) (Nat.le_of_ble_eq_true rfl)
  rw [lg_entry_eq]
  generalize (lg_sl ([.ref n, .int p0]) ++ List.replicate (2 - (lg_sl ([.ref n, .int p0])).length) Slot.unset).toArray = ls at hl ⊢
  have hl : lv_has ls 2 [(0, .ref n), (1, .int p0)] := hl
  refine lv_aload_n hx hb dX2_isChooser_0 rfl (lv_at hl 0 rfl) ?_
  refine lv_iload_n hx hb dX2_isChooser_1 rfl (lv_at hl 1 rfl) ?_
  have hPc := hP.sub (ws' := [(n, .inr (2, [.int n_nodes, .ref n_kind, .ref n_pay, .ref n_name, .ref n_ways, .ref n_held, .ref n_targets, .ref n_weights]))]) [0] rfl
  refine vp_callSi (va_Run.run (va_runV (As := [.int p0]) (rest := []) ⟨hx, hb, hml, hown, hts⟩ (c_X2_has l D g n p0 n_nodes n_kind n_pay n_name n_ways n_held n_targets n_weights (tr_w h_n_nodes (by decide) (by decide))) (cwV 1 hts (tz_gV qw_15 qw_16 qw_17 qw_9 qw_18) rfl rfl rfl (by decide +kernel) ⟨Nat.le_of_ble_eq_true rfl, Nat.le_of_ble_eq_true rfl⟩) ⟨tz_blS, va_recv hK hPc (ci := 2) (q0 := 0) rfl rfl, tz_preS hPc hK⟩ rfl rfl hl.1 rfl (lv_room (Nat.le_of_ble_eq_true rfl)) dX2_isChooser_2 ⟨Nat.le_of_ble_eq_true rfl, Nat.le_of_ble_eq_true rfl⟩)) (fun r_266 hw => ?_)
  have hw_267 : 0 ≤ (r_266 : Int32).toInt ∧ (r_266 : Int32).toInt ≤ 1 := hw.1
  have hw_267_m : ¬ r_266 = 0 → 0 ≤ (p0 : Int32).toInt ∧ (p0 : Int32).toInt ≤ 11 := hw.2
  refine lv_if_eq (tgt := 32) hx hb dX2_isChooser_5 (by decide) (fun c_268 => ?_) (fun c_268 => ?_)
  · skip
    have c_268_i := c_268
    have c_268_i : (r_266 : Int32).toInt = (0 : Int32).toInt := congrArg Int32.toInt c_268
    have h_269 : 0 ≤ (r_266 : Int32).toInt ∧ (r_266 : Int32).toInt ≤ 0 := by have q1 := hw_267; have q2 := (⟨by decide, by decide⟩ : 0 ≤ (0 : Int32).toInt ∧ (0 : Int32).toInt ≤ 0); omega
    refine lv_iconst (v := 0) hx hb dX2_isChooser_32 (by decide) ?_
    exact W.zret (v := 0) hx hb hr (by decide) (fun t ht hW => ⟨0, rfl, ⟨(⟨by decide, by decide⟩ : 0 ≤ (0 : Int32).toInt ∧ (0 : Int32).toInt ≤ 1), (fun h => absurd rfl h)⟩, ht⟩) (fun _ h => nomatch h) dX2_isChooser_33
  · skip
    have h_270 := hw_267_m c_268
    have c_268_i := c_268
    have c_268_i : ¬ (r_266 : Int32).toInt = (0 : Int32).toInt := (fun q => c_268 (Int32.toInt_inj.mp q))
    have h_271 : 1 ≤ (r_266 : Int32).toInt ∧ (r_266 : Int32).toInt ≤ 1 := by have q1 := hw_267; have q2 := (⟨by decide, by decide⟩ : 0 ≤ (0 : Int32).toInt ∧ (0 : Int32).toInt ≤ 0); omega
    refine lv_aload_n hx hb dX2_isChooser_8 rfl (lv_at hl 0 rfl) ?_
    refine va_get (D := D) (ci := 2) (v := .ref n_kind) (C := RX2) (T := TX2) (N := 8) hx hb hts inlX2 hown hK hP 0 rfl rfl 1 (by decide) (hts (Cond.fieldLink RX2 9 "ChanceRings$Net" "kind" "[I") qw_3) (fun _ h9 => h9) rfl dX2_isChooser_9 ?_
    refine lv_iload_n hx hb dX2_isChooser_12 rfl (lv_at hl 1 rfl) ?_
    refine va_iald hx hb hK hP 1 0 rfl rfl (tr_in h_270 (by decide) (by decide)) dX2_isChooser_13 ?_
    refine lv_topi (fun v_272 v_272_e => ?_)
    have h_v_272 : 0 ≤ (v_272 : Int32).toInt ∧ (v_272 : Int32).toInt ≤ 3 := by rw [v_272_e]; exact h_n_fkind _
    refine lv_iconst (v := 1) hx hb dX2_isChooser_14 (by decide) ?_
    refine lv_icmp_eq (tgt := 28) hx hb dX2_isChooser_15 (by decide) (fun c_273 => ?_) (fun c_273 => ?_)
    · skip
      have c_273_i := c_273
      have c_273_i : (v_272 : Int32).toInt = (1 : Int32).toInt := congrArg Int32.toInt c_273
      have h_274 : 1 ≤ (v_272 : Int32).toInt ∧ (v_272 : Int32).toInt ≤ 1 := by have q1 := h_v_272; have q2 := (⟨by decide, by decide⟩ : 1 ≤ (1 : Int32).toInt ∧ (1 : Int32).toInt ≤ 1); omega
      refine lv_iconst (v := 1) hx hb dX2_isChooser_28 (by decide) ?_
      refine lv_goto (tgt := 33) hx hb dX2_isChooser_29 (by decide) ?_
      exact W.zret (v := 1) hx hb hr (by decide) (fun t ht hW => ⟨1, rfl, ⟨(⟨by decide, by decide⟩ : 0 ≤ (1 : Int32).toInt ∧ (1 : Int32).toInt ≤ 1), (fun _ => (tr_w h_270 (by decide) (by decide)))⟩, ht⟩) (fun _ h => nomatch h) dX2_isChooser_33
    · skip
      refine lv_aload_n hx hb dX2_isChooser_18 rfl (lv_at hl 0 rfl) ?_
      refine va_get (D := D) (ci := 2) (v := .ref n_kind) (C := RX2) (T := TX2) (N := 8) hx hb hts inlX2 hown hK hP 0 rfl rfl 1 (by decide) (hts (Cond.fieldLink RX2 9 "ChanceRings$Net" "kind" "[I") qw_3) (fun _ h9 => h9) rfl dX2_isChooser_19 ?_
      refine lv_iload_n hx hb dX2_isChooser_22 rfl (lv_at hl 1 rfl) ?_
      refine va_iald hx hb hK hP 1 0 rfl rfl (tr_in h_270 (by decide) (by decide)) dX2_isChooser_23 ?_
      refine tz_i (y := v_272) v_272_e.symm ?_
      refine lv_iconst (v := 2) hx hb dX2_isChooser_24 (by decide) ?_
      refine lv_icmp_ne (tgt := 32) hx hb dX2_isChooser_25 (by decide) (fun c_275 => ?_) (fun c_275 => ?_)
      · skip
        refine lv_iconst (v := 0) hx hb dX2_isChooser_32 (by decide) ?_
        exact W.zret (v := 0) hx hb hr (by decide) (fun t ht hW => ⟨0, rfl, ⟨(⟨by decide, by decide⟩ : 0 ≤ (0 : Int32).toInt ∧ (0 : Int32).toInt ≤ 1), (fun h => absurd rfl h)⟩, ht⟩) (fun _ h => nomatch h) dX2_isChooser_33
      · skip
        have c_275_i := c_275
        have c_275_i : (v_272 : Int32).toInt = (2 : Int32).toInt := congrArg Int32.toInt c_275
        have h_276 : 2 ≤ (v_272 : Int32).toInt ∧ (v_272 : Int32).toInt ≤ 2 := by have q1 := h_v_272; have q2 := (⟨by decide, by decide⟩ : 2 ≤ (2 : Int32).toInt ∧ (2 : Int32).toInt ≤ 2); omega
        refine lv_iconst (v := 1) hx hb dX2_isChooser_28 (by decide) ?_
        refine lv_goto (tgt := 33) hx hb dX2_isChooser_29 (by decide) ?_
        exact W.zret (v := 1) hx hb hr (by decide) (fun t ht hW => ⟨1, rfl, ⟨(⟨by decide, by decide⟩ : 0 ≤ (1 : Int32).toInt ∧ (1 : Int32).toInt ≤ 1), (fun _ => (tr_w h_270 (by decide) (by decide)))⟩, ht⟩) (fun _ h => nomatch h) dX2_isChooser_33
set_option maxHeartbeats 4000000 in
set_option maxRecDepth 100000 in
theorem c_X2_weight (l : Launch) (D : va_G) (g : Nat → ClassId) (n : Nat) (p0 : Int32) (p1 : Int32) (n_nodes : Int32) (n_kind : Nat) (n_pay : Nat) (n_name : Nat) (n_ways : Nat) (n_held : Nat) (n_targets : Nat) (n_weights : Nat) (n_fweights : Nat → Int32) (h_p0 : 0 ≤ (p0 : Int32).toInt ∧ (p0 : Int32).toInt ≤ 11) (h_p1 : 0 ≤ (p1 : Int32).toInt ∧ (p1 : Int32).toInt ≤ 2) (h_n_nodes : 0 ≤ (n_nodes : Int32).toInt ∧ (n_nodes : Int32).toInt ≤ 12) : Met l yX2_weight (.code yX2_weight cX2_weight 3 (some .int) :: wsL_law) ({ frames := 0, cells := 0, slots := 0, locals := 0 }) (va_Pc [.ref n, .int p0, .int p1] (fun U => va_P D vwCl [(n, .inr (2, [.int n_nodes, .ref n_kind, .ref n_pay, .ref n_name, .ref n_ways, .ref n_held, .ref n_targets, .ref n_weights])), (n_weights, .inl (g 0, 36, .inl n_fweights))] U.heap ∧ va_K D vwCl (TY g) U)) (vp_Si (fun r => True)) 0 0 (fun _ => False) := by
  refine Met.ofW (cc := cX2_weight) (maxL := 3) (ret := (some .int)) (by decide) rfl ?_
  intro p e s m args below meth c s₁ B hml hv
  obtain ⟨ha, hP, hK⟩ := hv
  have hx := B.exec
  have hb := B.bytes
  have hr := B.returns
  have hts0 := atoms_spec (ws := (.code yX2_weight cX2_weight 3 (some .int) :: wsL_law)) B.pre
  have hts : ∀ w ∈ wsL_law, w.before args s = true := fun w h => hts0 w (List.mem_cons_of_mem _ h)
  have hown : s.vm.findClass RX2 = some m.cls := findClass_of_methodNamed B.named
  have hlocks := B.notSynchronized
  have hP : va_P D vwCl [(n, .inr (2, [.int n_nodes, .ref n_kind, .ref n_pay, .ref n_name, .ref n_ways, .ref n_held, .ref n_targets, .ref n_weights])), (n_weights, .inl (g 0, 36, .inl n_fweights))] s.heap := hP
  refine W.eq (g2 := entryFrame m ([.ref n, .int p0, .int p1] : List Value).toArray 3) (by rw [ha]) ?_
  have hl := lv_entry ([.ref n, .int p0, .int p1]) (n := 3) (Nat.le_of_ble_eq_true rfl)
  rw [lg_entry_eq]
  generalize (lg_sl ([.ref n, .int p0, .int p1]) ++ List.replicate (3 - (lg_sl ([.ref n, .int p0, .int p1])).length) Slot.unset).toArray = ls at hl ⊢
  have hl : lv_has ls 3 [(0, .ref n), (1, .int p0), (2, .int p1)] := hl
  refine lv_aload_n hx hb dX2_weight_0 rfl (lv_at hl 0 rfl) ?_
  refine va_get (D := D) (ci := 2) (v := .ref n_weights) (C := RX2) (T := TX2) (N := 8) hx hb hts inlX2 hown hK hP 0 rfl rfl 7 (by decide) (hts (Cond.fieldLink RX2 30 "ChanceRings$Net" "weights" "[I") qw_19) (fun _ h9 => h9) rfl dX2_weight_1 ?_
  refine lv_iload_n hx hb dX2_weight_4 rfl (lv_at hl 1 rfl) ?_
  refine lv_iconst (v := 3) hx hb dX2_weight_5 (by decide) ?_
  refine lv_imul hx hb dX2_weight_6 ?_
  refine lv_topi (fun v_277 v_277_e => ?_)
  have h_v_277 : 0 ≤ (v_277 : Int32).toInt ∧ (v_277 : Int32).toInt ≤ 33 := by rw [v_277_e]; exact tr_mul h_p0 (⟨by decide, by decide⟩ : 3 ≤ (3 : Int32).toInt ∧ (3 : Int32).toInt ≤ 3) (by decide) (by decide) (by decide) (by decide)
  refine lv_iload_n hx hb dX2_weight_7 rfl (lv_at hl 2 rfl) ?_
  refine lv_iadd hx hb dX2_weight_8 ?_
  refine lv_topi (fun v_278 v_278_e => ?_)
  have h_v_278 : 0 ≤ (v_278 : Int32).toInt ∧ (v_278 : Int32).toInt ≤ 35 := by rw [v_278_e]; exact tr_add h_v_277 h_p1 (by decide) (by decide) (by decide) (by decide)
  refine va_iald hx hb hK hP 1 0 rfl rfl (tr_in h_v_278 (by decide) (by decide)) dX2_weight_9 ?_
  refine lv_topi (fun v_279 v_279_e => ?_)
  exact W.iret (v := v_279) hx hb hr (fun t ht hW => ⟨v_279, rfl, trivial, ht⟩) (fun _ h => nomatch h) dX2_weight_10
set_option maxHeartbeats 4000000 in
set_option maxRecDepth 100000 in
theorem c_X2_together (l : Launch) (D : va_G) (g : Nat → ClassId) (n : Nat) (p0 : Int32) (n_nodes : Int32) (n_kind : Nat) (n_pay : Nat) (n_name : Nat) (n_ways : Nat) (n_held : Nat) (n_targets : Nat) (n_weights : Nat) (n_fkind : Nat → Int32) (n_fways : Nat → Int32) (n_fweights : Nat → Int32) (h_p0 : 0 ≤ (p0 : Int32).toInt ∧ (p0 : Int32).toInt ≤ 11) (h_n_nodes : 0 ≤ (n_nodes : Int32).toInt ∧ (n_nodes : Int32).toInt ≤ 12) (h_n_fkind : ∀ j : Nat, 0 ≤ (n_fkind j).toInt ∧ (n_fkind j).toInt ≤ 3) (h_n_fways : ∀ j : Nat, 0 ≤ (n_fways j).toInt ∧ (n_fways j).toInt ≤ 3) : Met l yX2_together (.code yX2_together cX2_together 4 (some .int) :: wsL_law) ({ frames := 0, cells := 0, slots := 0, locals := 0 }) (va_Pc [.ref n, .int p0] (fun U => va_P D vwCl [(n, .inr (2, [.int n_nodes, .ref n_kind, .ref n_pay, .ref n_name, .ref n_ways, .ref n_held, .ref n_targets, .ref n_weights])), (n_kind, .inl (g 0, 12, .inl n_fkind)), (n_ways, .inl (g 0, 12, .inl n_fways)), (n_weights, .inl (g 0, 36, .inl n_fweights))] U.heap ∧ va_K D vwCl (TY g) U)) (vp_Si (fun r => True)) 0 0 (fun _ => False) := by
  refine Met.ofW (cc := cX2_together) (maxL := 4) (ret := (some .int)) (by decide) rfl ?_
  intro p e s m args below meth c s₁ B hml hv
  obtain ⟨ha, hP, hK⟩ := hv
  have hx := B.exec
  have hb := B.bytes
  have hr := B.returns
  have hts0 := atoms_spec (ws := (.code yX2_together cX2_together 4 (some .int) :: wsL_law)) B.pre
  have hts : ∀ w ∈ wsL_law, w.before args s = true := fun w h => hts0 w (List.mem_cons_of_mem _ h)
  have hown : s.vm.findClass RX2 = some m.cls := findClass_of_methodNamed B.named
  have hlocks := B.notSynchronized
  have hP : va_P D vwCl [(n, .inr (2, [.int n_nodes, .ref n_kind, .ref n_pay, .ref n_name, .ref n_ways, .ref n_held, .ref n_targets, .ref n_weights])), (n_kind, .inl (g 0, 12, .inl n_fkind)), (n_ways, .inl (g 0, 12, .inl n_fways)), (n_weights, .inl (g 0, 36, .inl n_fweights))] s.heap := hP
  refine W.eq (g2 := entryFrame m ([.ref n, .int p0] : List Value).toArray 4) (by rw [ha]) ?_
  have hl := lv_entry ([.ref n, .int p0]) (n := 4) (Nat.le_of_ble_eq_true rfl)
  rw [lg_entry_eq]
  generalize (lg_sl ([.ref n, .int p0]) ++ List.replicate (4 - (lg_sl ([.ref n, .int p0])).length) Slot.unset).toArray = ls at hl ⊢
  have hl : lv_has ls 4 [(0, .ref n), (1, .int p0)] := hl
  refine lv_aload_n hx hb dX2_together_0 rfl (lv_at hl 0 rfl) ?_
  refine va_get (D := D) (ci := 2) (v := .ref n_kind) (C := RX2) (T := TX2) (N := 8) hx hb hts inlX2 hown hK hP 0 rfl rfl 1 (by decide) (hts (Cond.fieldLink RX2 9 "ChanceRings$Net" "kind" "[I") qw_3) (fun _ h9 => h9) rfl dX2_together_1 ?_
  refine lv_iload_n hx hb dX2_together_4 rfl (lv_at hl 1 rfl) ?_
  refine va_iald hx hb hK hP 1 0 rfl rfl (tr_in h_p0 (by decide) (by decide)) dX2_together_5 ?_
  refine lv_topi (fun v_280 v_280_e => ?_)
  have h_v_280 : 0 ≤ (v_280 : Int32).toInt ∧ (v_280 : Int32).toInt ≤ 3 := by rw [v_280_e]; exact h_n_fkind _
  refine lv_iconst (v := 3) hx hb dX2_together_6 (by decide) ?_
  refine lv_icmp_eq (tgt := 12) hx hb dX2_together_7 (by decide) (fun c_281 => ?_) (fun c_281 => ?_)
  · skip
    have c_281_i := c_281
    have c_281_i : (v_280 : Int32).toInt = (3 : Int32).toInt := congrArg Int32.toInt c_281
    have h_282 : 3 ≤ (v_280 : Int32).toInt ∧ (v_280 : Int32).toInt ≤ 3 := by have q1 := h_v_280; have q2 := (⟨by decide, by decide⟩ : 3 ≤ (3 : Int32).toInt ∧ (3 : Int32).toInt ≤ 3); omega
    refine lv_iconst (v := 0) hx hb dX2_together_12 (by decide) ?_
    refine lv_istore_n (lv' := [(2, .int 0), (0, .ref n), (1, .int p0)]) hx hb dX2_together_13 rfl hl (by decide) rfl (fun ls hl => ?_)
    refine lv_iconst (v := 0) hx hb dX2_together_14 (by decide) ?_
    refine lv_istore_n (lv' := [(3, .int 0), (2, .int 0), (0, .ref n), (1, .int p0)]) hx hb dX2_together_15 rfl hl (by decide) rfl (fun ls hl => ?_)
    have lp_327 : ∀ (n_327 : Nat) (x_325 : Int32) (x_326 : Int32) (ls : Array Slot), (0 ≤ (x_325 : Int32).toInt ∧ (x_325 : Int32).toInt ≤ 3) → (3 - x_325.toInt < (n_327 : Int)) → lv_has ls 4 [(3, .int x_325), (2, .int x_326), (0, .ref n), (1, .int p0)] → W p l e (headSpec (.code yX2_together cX2_together 4 (some .int) :: wsL_law) ({ frames := 0, cells := 0, slots := 0, locals := 0 })).room s m args below meth c s.heap [] 0 0 (MQ below (vp_Si (fun r => True)) args s 0 0 (fun _ => False)) (F0 m 16 ls []) := by
      intro n_327
      induction n_327 with
      | zero =>
        intro x_325 x_326 ls h_x_325 hm_327 hl
        exfalso; omega
      | succ n_327 ih_327 =>
        intro x_325 x_326 ls h_x_325 hm_327 hl
        refine lv_iload_n hx hb dX2_together_16 rfl (lv_at hl 0 rfl) ?_
        refine lv_aload_n hx hb dX2_together_17 rfl (lv_at hl 2 rfl) ?_
        refine va_get (D := D) (ci := 2) (v := .ref n_ways) (C := RX2) (T := TX2) (N := 8) hx hb hts inlX2 hown hK hP 0 rfl rfl 4 (by decide) (hts (Cond.fieldLink RX2 21 "ChanceRings$Net" "ways" "[I") qw_5) (fun _ h9 => h9) rfl dX2_together_18 ?_
        refine lv_iload_n hx hb dX2_together_21 rfl (lv_at hl 3 rfl) ?_
        refine va_iald hx hb hK hP 2 0 rfl rfl (tr_in h_p0 (by decide) (by decide)) dX2_together_22 ?_
        refine lv_topi (fun v_328 v_328_e => ?_)
        have h_v_328 : 0 ≤ (v_328 : Int32).toInt ∧ (v_328 : Int32).toInt ≤ 3 := by rw [v_328_e]; exact h_n_fways _
        refine lv_icmp_ge (tgt := 45) hx hb dX2_together_23 (by decide) (fun c_329 => ?_) (fun c_329 => ?_)
        · skip
          refine lv_iload_n hx hb dX2_together_45 rfl (lv_at hl 1 rfl) ?_
          exact W.iret (v := x_326) hx hb hr (fun t ht hW => ⟨x_326, rfl, trivial, ht⟩) (fun _ h => nomatch h) dX2_together_46
        · skip
          have c_329_i := Int32.lt_iff_toInt_lt.mp (Int32.not_le.mp c_329)
          have h_330 : 0 ≤ (x_325 : Int32).toInt ∧ (x_325 : Int32).toInt ≤ 2 := by have q1 := h_x_325; have q2 := h_v_328; omega
          have h_331 : 1 ≤ (v_328 : Int32).toInt ∧ (v_328 : Int32).toInt ≤ 3 := by have q1 := h_x_325; have q2 := h_v_328; omega
          refine lv_iload_n hx hb dX2_together_26 rfl (lv_at hl 1 rfl) ?_
          refine lv_aload_n hx hb dX2_together_27 rfl (lv_at hl 2 rfl) ?_
          refine va_get (D := D) (ci := 2) (v := .ref n_weights) (C := RX2) (T := TX2) (N := 8) hx hb hts inlX2 hown hK hP 0 rfl rfl 7 (by decide) (hts (Cond.fieldLink RX2 30 "ChanceRings$Net" "weights" "[I") qw_19) (fun _ h9 => h9) rfl dX2_together_28 ?_
          refine lv_iload_n hx hb dX2_together_31 rfl (lv_at hl 3 rfl) ?_
          refine lv_iconst (v := 3) hx hb dX2_together_32 (by decide) ?_
          refine lv_imul hx hb dX2_together_33 ?_
          refine lv_topi (fun v_332 v_332_e => ?_)
          have h_v_332 : 0 ≤ (v_332 : Int32).toInt ∧ (v_332 : Int32).toInt ≤ 33 := by rw [v_332_e]; exact tr_mul h_p0 (⟨by decide, by decide⟩ : 3 ≤ (3 : Int32).toInt ∧ (3 : Int32).toInt ≤ 3) (by decide) (by decide) (by decide) (by decide)
          refine lv_iload_n hx hb dX2_together_34 rfl (lv_at hl 0 rfl) ?_
          refine lv_iadd hx hb dX2_together_35 ?_
          refine lv_topi (fun v_333 v_333_e => ?_)
          have h_v_333 : 0 ≤ (v_333 : Int32).toInt ∧ (v_333 : Int32).toInt ≤ 35 := by rw [v_333_e]; exact tr_add h_v_332 h_330 (by decide) (by decide) (by decide) (by decide)
          refine va_iald hx hb hK hP 3 0 rfl rfl (tr_in h_v_333 (by decide) (by decide)) dX2_together_36 ?_
          refine lv_topi (fun v_334 v_334_e => ?_)
          refine lv_iadd hx hb dX2_together_37 ?_
          refine lv_topi (fun v_335 v_335_e => ?_)
          refine lv_istore_n (lv' := [(2, .int v_335), (3, .int x_325), (0, .ref n), (1, .int p0)]) hx hb dX2_together_38 rfl hl (by decide) rfl (fun ls hl => ?_)
          obtain ⟨v_336, v_336_e⟩ : ∃ y : Int32, y = x_325 + Int32.ofInt 1 := ⟨_, rfl⟩
          have h_v_336 : 1 ≤ (v_336 : Int32).toInt ∧ (v_336 : Int32).toInt ≤ 3 := by rw [v_336_e]; exact tr_add h_330 (⟨by decide, by decide⟩ : 1 ≤ (Int32.ofInt 1 : Int32).toInt ∧ (Int32.ofInt 1 : Int32).toInt ≤ 1) (by decide) (by decide) (by decide) (by decide)
          have q_v_336 : v_336.toInt = x_325.toInt + 1 := by rw [v_336_e]; exact tr_addE h_330 (⟨by decide, by decide⟩ : 1 ≤ (Int32.ofInt 1 : Int32).toInt ∧ (Int32.ofInt 1 : Int32).toInt ≤ 1) (by decide) (by decide)
          refine lv_iinc (v := v_336) (lv' := [(3, .int v_336), (2, .int v_335), (0, .ref n), (1, .int p0)]) hx hb dX2_together_39 hl (k := 1) rfl v_336_e.symm (by decide) rfl (fun ls hl => ?_)
          refine lv_goto (tgt := 16) hx hb dX2_together_42 (by decide) ?_
          exact ih_327 v_336 v_335 ls (tr_w h_v_336 (by decide) (by decide)) (by omega) (lv_sub hl [0, 1, 2, 3] rfl)
    exact lp_327 4 0 0 ls (⟨by decide, by decide⟩ : 0 ≤ (0 : Int32).toInt ∧ (0 : Int32).toInt ≤ 3) (by decide) (lv_sub hl [0, 1, 2, 3] rfl)
  · skip
    have c_281_i := c_281
    have c_281_i : ¬ (v_280 : Int32).toInt = (3 : Int32).toInt := (fun q => c_281 (Int32.toInt_inj.mp q))
    have h_283 : 0 ≤ (v_280 : Int32).toInt ∧ (v_280 : Int32).toInt ≤ 2 := by have q1 := h_v_280; have q2 := (⟨by decide, by decide⟩ : 3 ≤ (3 : Int32).toInt ∧ (3 : Int32).toInt ≤ 3); omega
    refine lv_iconst (v := 1) hx hb dX2_together_10 (by decide) ?_
    exact W.iret (v := 1) hx hb hr (fun t ht hW => ⟨1, rfl, trivial, ht⟩) (fun _ h => nomatch h) dX2_together_11
set_option maxHeartbeats 4000000 in
set_option maxRecDepth 100000 in
theorem c_X2_find (l : Launch) (D : va_G) (g : Nat → ClassId) (n : Nat) (p0 : Int32) (n_nodes : Int32) (n_kind : Nat) (n_pay : Nat) (n_name : Nat) (n_ways : Nat) (n_held : Nat) (n_targets : Nat) (n_weights : Nat) (n_fname : Nat → Int32) (h_n_nodes : 0 ≤ (n_nodes : Int32).toInt ∧ (n_nodes : Int32).toInt ≤ 12) : Met l yX2_find (.code yX2_find cX2_find 3 (some .int) :: wsL_law) ({ frames := 0, cells := 0, slots := 0, locals := 0 }) (va_Pc [.ref n, .int p0] (fun U => va_P D vwCl [(n, .inr (2, [.int n_nodes, .ref n_kind, .ref n_pay, .ref n_name, .ref n_ways, .ref n_held, .ref n_targets, .ref n_weights])), (n_name, .inl (g 0, 12, .inl n_fname))] U.heap ∧ va_K D vwCl (TY g) U)) (vp_Si (fun r => (-1) ≤ (r : Int32).toInt ∧ (r : Int32).toInt ≤ 11)) 0 0 (fun _ => False) := by
  refine Met.ofW (cc := cX2_find) (maxL := 3) (ret := (some .int)) (by decide) rfl ?_
  intro p e s m args below meth c s₁ B hml hv
  obtain ⟨ha, hP, hK⟩ := hv
  have hx := B.exec
  have hb := B.bytes
  have hr := B.returns
  have hts0 := atoms_spec (ws := (.code yX2_find cX2_find 3 (some .int) :: wsL_law)) B.pre
  have hts : ∀ w ∈ wsL_law, w.before args s = true := fun w h => hts0 w (List.mem_cons_of_mem _ h)
  have hown : s.vm.findClass RX2 = some m.cls := findClass_of_methodNamed B.named
  have hlocks := B.notSynchronized
  have hP : va_P D vwCl [(n, .inr (2, [.int n_nodes, .ref n_kind, .ref n_pay, .ref n_name, .ref n_ways, .ref n_held, .ref n_targets, .ref n_weights])), (n_name, .inl (g 0, 12, .inl n_fname))] s.heap := hP
  refine W.eq (g2 := entryFrame m ([.ref n, .int p0] : List Value).toArray 3) (by rw [ha]) ?_
  have hl := lv_entry ([.ref n, .int p0]) (n := 3) (Nat.le_of_ble_eq_true rfl)
  rw [lg_entry_eq]
  generalize (lg_sl ([.ref n, .int p0]) ++ List.replicate (3 - (lg_sl ([.ref n, .int p0])).length) Slot.unset).toArray = ls at hl ⊢
  have hl : lv_has ls 3 [(0, .ref n), (1, .int p0)] := hl
  refine lv_iconst (v := 0) hx hb dX2_find_0 (by decide) ?_
  refine lv_istore_n (lv' := [(2, .int 0), (0, .ref n), (1, .int p0)]) hx hb dX2_find_1 rfl hl (by decide) rfl (fun ls hl => ?_)
  have lp_392 : ∀ (n_392 : Nat) (x_391 : Int32) (ls : Array Slot), (0 ≤ (x_391 : Int32).toInt ∧ (x_391 : Int32).toInt ≤ 12) → (12 - x_391.toInt < (n_392 : Int)) → lv_has ls 3 [(2, .int x_391), (0, .ref n), (1, .int p0)] → W p l e (headSpec (.code yX2_find cX2_find 3 (some .int) :: wsL_law) ({ frames := 0, cells := 0, slots := 0, locals := 0 })).room s m args below meth c s.heap [] 0 0 (MQ below (vp_Si (fun r => (-1) ≤ (r : Int32).toInt ∧ (r : Int32).toInt ≤ 11)) args s 0 0 (fun _ => False)) (F0 m 2 ls []) := by
    intro n_392
    induction n_392 with
    | zero =>
      intro x_391 ls h_x_391 hm_392 hl
      exfalso; omega
    | succ n_392 ih_392 =>
      intro x_391 ls h_x_391 hm_392 hl
      refine lv_iload_n hx hb dX2_find_2 rfl (lv_at hl 0 rfl) ?_
      refine lv_aload_n hx hb dX2_find_3 rfl (lv_at hl 1 rfl) ?_
      refine va_get (D := D) (ci := 2) (v := .int n_nodes) (C := RX2) (T := TX2) (N := 8) hx hb hts inlX2 hown hK hP 0 rfl rfl 0 (by decide) (hts (Cond.fieldLink RX2 33 "ChanceRings$Net" "nodes" "I") qw_0) (fun _ h9 => h9) rfl dX2_find_4 ?_
      refine lv_icmp_ge (tgt := 28) hx hb dX2_find_7 (by decide) (fun c_393 => ?_) (fun c_393 => ?_)
      · skip
        refine lv_iconst (v := (-1)) hx hb dX2_find_28 (by decide) ?_
        exact W.iret (v := (-1)) hx hb hr (fun t ht hW => ⟨(-1), rfl, (⟨by decide, by decide⟩ : (-1) ≤ ((-1) : Int32).toInt ∧ ((-1) : Int32).toInt ≤ 11), ht⟩) (fun _ h => nomatch h) dX2_find_29
      · skip
        have c_393_i := Int32.lt_iff_toInt_lt.mp (Int32.not_le.mp c_393)
        have h_394 : 0 ≤ (x_391 : Int32).toInt ∧ (x_391 : Int32).toInt ≤ 11 := by have q1 := h_x_391; have q2 := h_n_nodes; omega
        have h_395 : 1 ≤ (n_nodes : Int32).toInt ∧ (n_nodes : Int32).toInt ≤ 12 := by have q1 := h_x_391; have q2 := h_n_nodes; omega
        refine lv_aload_n hx hb dX2_find_10 rfl (lv_at hl 1 rfl) ?_
        refine va_get (D := D) (ci := 2) (v := .ref n_name) (C := RX2) (T := TX2) (N := 8) hx hb hts inlX2 hown hK hP 0 rfl rfl 3 (by decide) (hts (Cond.fieldLink RX2 18 "ChanceRings$Net" "name" "[I") qw_20) (fun _ h9 => h9) rfl dX2_find_11 ?_
        refine lv_iload_n hx hb dX2_find_14 rfl (lv_at hl 0 rfl) ?_
        refine va_iald hx hb hK hP 1 0 rfl rfl (tr_in h_394 (by decide) (by decide)) dX2_find_15 ?_
        refine lv_topi (fun v_396 v_396_e => ?_)
        refine lv_iload_n hx hb dX2_find_16 rfl (lv_at hl 2 rfl) ?_
        refine lv_icmp_ne (tgt := 22) hx hb dX2_find_17 (by decide) (fun c_397 => ?_) (fun c_397 => ?_)
        · skip
          obtain ⟨v_398, v_398_e⟩ : ∃ y : Int32, y = x_391 + Int32.ofInt 1 := ⟨_, rfl⟩
          have h_v_398 : 1 ≤ (v_398 : Int32).toInt ∧ (v_398 : Int32).toInt ≤ 12 := by rw [v_398_e]; exact tr_add h_394 (⟨by decide, by decide⟩ : 1 ≤ (Int32.ofInt 1 : Int32).toInt ∧ (Int32.ofInt 1 : Int32).toInt ≤ 1) (by decide) (by decide) (by decide) (by decide)
          have q_v_398 : v_398.toInt = x_391.toInt + 1 := by rw [v_398_e]; exact tr_addE h_394 (⟨by decide, by decide⟩ : 1 ≤ (Int32.ofInt 1 : Int32).toInt ∧ (Int32.ofInt 1 : Int32).toInt ≤ 1) (by decide) (by decide)
          refine lv_iinc (v := v_398) (lv' := [(2, .int v_398), (0, .ref n), (1, .int p0)]) hx hb dX2_find_22 hl (k := 0) rfl v_398_e.symm (by decide) rfl (fun ls hl => ?_)
          refine lv_goto (tgt := 2) hx hb dX2_find_25 (by decide) ?_
          exact ih_392 v_398 ls (tr_w h_v_398 (by decide) (by decide)) (by omega) (lv_sub hl [0, 1, 2] rfl)
        · skip
          refine lv_iload_n hx hb dX2_find_20 rfl (lv_at hl 0 rfl) ?_
          exact W.iret (v := x_391) hx hb hr (fun t ht hW => ⟨x_391, rfl, (tr_w h_394 (by decide) (by decide)), ht⟩) (fun _ h => nomatch h) dX2_find_21
  exact lp_392 13 0 ls (⟨by decide, by decide⟩ : 0 ≤ (0 : Int32).toInt ∧ (0 : Int32).toInt ≤ 12) (by decide) (lv_sub hl [0, 1, 2] rfl)
set_option maxHeartbeats 4000000 in
set_option maxRecDepth 100000 in
theorem c_X2_countOf (l : Launch) (D : va_G) (g : Nat → ClassId) (n : Nat) (p0 : Int32) (n_nodes : Int32) (n_kind : Nat) (n_pay : Nat) (n_name : Nat) (n_ways : Nat) (n_held : Nat) (n_targets : Nat) (n_weights : Nat) (n_fkind : Nat → Int32) (h_n_nodes : 0 ≤ (n_nodes : Int32).toInt ∧ (n_nodes : Int32).toInt ≤ 12) (h_n_fkind : ∀ j : Nat, 0 ≤ (n_fkind j).toInt ∧ (n_fkind j).toInt ≤ 3) : Met l yX2_countOf (.code yX2_countOf cX2_countOf 4 (some .int) :: wsL_law) ({ frames := 0, cells := 0, slots := 0, locals := 0 }) (va_Pc [.ref n, .int p0] (fun U => va_P D vwCl [(n, .inr (2, [.int n_nodes, .ref n_kind, .ref n_pay, .ref n_name, .ref n_ways, .ref n_held, .ref n_targets, .ref n_weights])), (n_kind, .inl (g 0, 12, .inl n_fkind))] U.heap ∧ va_K D vwCl (TY g) U)) (vp_Si (fun r => True)) 0 0 (fun _ => False) := by
  refine Met.ofW (cc := cX2_countOf) (maxL := 4) (ret := (some .int)) (by decide) rfl ?_
  intro p e s m args below meth c s₁ B hml hv
  obtain ⟨ha, hP, hK⟩ := hv
  have hx := B.exec
  have hb := B.bytes
  have hr := B.returns
  have hts0 := atoms_spec (ws := (.code yX2_countOf cX2_countOf 4 (some .int) :: wsL_law)) B.pre
  have hts : ∀ w ∈ wsL_law, w.before args s = true := fun w h => hts0 w (List.mem_cons_of_mem _ h)
  have hown : s.vm.findClass RX2 = some m.cls := findClass_of_methodNamed B.named
  have hlocks := B.notSynchronized
  have hP : va_P D vwCl [(n, .inr (2, [.int n_nodes, .ref n_kind, .ref n_pay, .ref n_name, .ref n_ways, .ref n_held, .ref n_targets, .ref n_weights])), (n_kind, .inl (g 0, 12, .inl n_fkind))] s.heap := hP
  refine W.eq (g2 := entryFrame m ([.ref n, .int p0] : List Value).toArray 4) (by rw [ha]) ?_
  have hl := lv_entry ([.ref n, .int p0]) (n := 4) (Nat.le_of_ble_eq_true rfl)
  rw [lg_entry_eq]
  generalize (lg_sl ([.ref n, .int p0]) ++ List.replicate (4 - (lg_sl ([.ref n, .int p0])).length) Slot.unset).toArray = ls at hl ⊢
  have hl : lv_has ls 4 [(0, .ref n), (1, .int p0)] := hl
  refine lv_iconst (v := 0) hx hb dX2_countOf_0 (by decide) ?_
  refine lv_istore_n (lv' := [(2, .int 0), (0, .ref n), (1, .int p0)]) hx hb dX2_countOf_1 rfl hl (by decide) rfl (fun ls hl => ?_)
  refine lv_iconst (v := 0) hx hb dX2_countOf_2 (by decide) ?_
  refine lv_istore_n (lv' := [(3, .int 0), (2, .int 0), (0, .ref n), (1, .int p0)]) hx hb dX2_countOf_3 rfl hl (by decide) rfl (fun ls hl => ?_)
  have lp_626 : ∀ (n_626 : Nat) (x_624 : Int32) (x_625 : Int32) (ls : Array Slot), (0 ≤ (x_624 : Int32).toInt ∧ (x_624 : Int32).toInt ≤ 12) → (12 - x_624.toInt < (n_626 : Int)) → lv_has ls 4 [(3, .int x_624), (2, .int x_625), (0, .ref n), (1, .int p0)] → W p l e (headSpec (.code yX2_countOf cX2_countOf 4 (some .int) :: wsL_law) ({ frames := 0, cells := 0, slots := 0, locals := 0 })).room s m args below meth c s.heap [] 0 0 (MQ below (vp_Si (fun r => True)) args s 0 0 (fun _ => False)) (F0 m 4 ls []) := by
    intro n_626
    induction n_626 with
    | zero =>
      intro x_624 x_625 ls h_x_624 hm_626 hl
      exfalso; omega
    | succ n_626 ih_626 =>
      intro x_624 x_625 ls h_x_624 hm_626 hl
      refine lv_iload_n hx hb dX2_countOf_4 rfl (lv_at hl 0 rfl) ?_
      refine lv_aload_n hx hb dX2_countOf_5 rfl (lv_at hl 2 rfl) ?_
      refine va_get (D := D) (ci := 2) (v := .int n_nodes) (C := RX2) (T := TX2) (N := 8) hx hb hts inlX2 hown hK hP 0 rfl rfl 0 (by decide) (hts (Cond.fieldLink RX2 33 "ChanceRings$Net" "nodes" "I") qw_0) (fun _ h9 => h9) rfl dX2_countOf_6 ?_
      refine lv_icmp_ge (tgt := 31) hx hb dX2_countOf_9 (by decide) (fun c_627 => ?_) (fun c_627 => ?_)
      · skip
        refine lv_iload_n hx hb dX2_countOf_31 rfl (lv_at hl 1 rfl) ?_
        exact W.iret (v := x_625) hx hb hr (fun t ht hW => ⟨x_625, rfl, trivial, ht⟩) (fun _ h => nomatch h) dX2_countOf_32
      · skip
        have c_627_i := Int32.lt_iff_toInt_lt.mp (Int32.not_le.mp c_627)
        have h_628 : 0 ≤ (x_624 : Int32).toInt ∧ (x_624 : Int32).toInt ≤ 11 := by have q1 := h_x_624; have q2 := h_n_nodes; omega
        have h_629 : 1 ≤ (n_nodes : Int32).toInt ∧ (n_nodes : Int32).toInt ≤ 12 := by have q1 := h_x_624; have q2 := h_n_nodes; omega
        refine lv_aload_n hx hb dX2_countOf_12 rfl (lv_at hl 2 rfl) ?_
        refine va_get (D := D) (ci := 2) (v := .ref n_kind) (C := RX2) (T := TX2) (N := 8) hx hb hts inlX2 hown hK hP 0 rfl rfl 1 (by decide) (hts (Cond.fieldLink RX2 9 "ChanceRings$Net" "kind" "[I") qw_3) (fun _ h9 => h9) rfl dX2_countOf_13 ?_
        refine lv_iload_n hx hb dX2_countOf_16 rfl (lv_at hl 0 rfl) ?_
        refine va_iald hx hb hK hP 1 0 rfl rfl (tr_in h_628 (by decide) (by decide)) dX2_countOf_17 ?_
        refine lv_topi (fun v_630 v_630_e => ?_)
        have h_v_630 : 0 ≤ (v_630 : Int32).toInt ∧ (v_630 : Int32).toInt ≤ 3 := by rw [v_630_e]; exact h_n_fkind _
        refine lv_iload_n hx hb dX2_countOf_18 rfl (lv_at hl 3 rfl) ?_
        refine lv_icmp_ne (tgt := 25) hx hb dX2_countOf_19 (by decide) (fun c_631 => ?_) (fun c_631 => ?_)
        · skip
          obtain ⟨v_632, v_632_e⟩ : ∃ y : Int32, y = x_624 + Int32.ofInt 1 := ⟨_, rfl⟩
          have h_v_632 : 1 ≤ (v_632 : Int32).toInt ∧ (v_632 : Int32).toInt ≤ 12 := by rw [v_632_e]; exact tr_add h_628 (⟨by decide, by decide⟩ : 1 ≤ (Int32.ofInt 1 : Int32).toInt ∧ (Int32.ofInt 1 : Int32).toInt ≤ 1) (by decide) (by decide) (by decide) (by decide)
          have q_v_632 : v_632.toInt = x_624.toInt + 1 := by rw [v_632_e]; exact tr_addE h_628 (⟨by decide, by decide⟩ : 1 ≤ (Int32.ofInt 1 : Int32).toInt ∧ (Int32.ofInt 1 : Int32).toInt ≤ 1) (by decide) (by decide)
          refine lv_iinc (v := v_632) (lv' := [(3, .int v_632), (2, .int x_625), (0, .ref n), (1, .int p0)]) hx hb dX2_countOf_25 hl (k := 0) rfl v_632_e.symm (by decide) rfl (fun ls hl => ?_)
          refine lv_goto (tgt := 4) hx hb dX2_countOf_28 (by decide) ?_
          exact ih_626 v_632 x_625 ls (tr_w h_v_632 (by decide) (by decide)) (by omega) (lv_sub hl [0, 1, 2, 3] rfl)
        · skip
          obtain ⟨v_633, v_633_e⟩ : ∃ y : Int32, y = x_625 + Int32.ofInt 1 := ⟨_, rfl⟩
          refine lv_iinc (v := v_633) (lv' := [(2, .int v_633), (3, .int x_624), (0, .ref n), (1, .int p0)]) hx hb dX2_countOf_22 hl (k := 1) rfl v_633_e.symm (by decide) rfl (fun ls hl => ?_)
          obtain ⟨v_634, v_634_e⟩ : ∃ y : Int32, y = x_624 + Int32.ofInt 1 := ⟨_, rfl⟩
          have h_v_634 : 1 ≤ (v_634 : Int32).toInt ∧ (v_634 : Int32).toInt ≤ 12 := by rw [v_634_e]; exact tr_add h_628 (⟨by decide, by decide⟩ : 1 ≤ (Int32.ofInt 1 : Int32).toInt ∧ (Int32.ofInt 1 : Int32).toInt ≤ 1) (by decide) (by decide) (by decide) (by decide)
          have q_v_634 : v_634.toInt = x_624.toInt + 1 := by rw [v_634_e]; exact tr_addE h_628 (⟨by decide, by decide⟩ : 1 ≤ (Int32.ofInt 1 : Int32).toInt ∧ (Int32.ofInt 1 : Int32).toInt ≤ 1) (by decide) (by decide)
          refine lv_iinc (v := v_634) (lv' := [(3, .int v_634), (2, .int v_633), (0, .ref n), (1, .int p0)]) hx hb dX2_countOf_25 hl (k := 1) rfl v_634_e.symm (by decide) rfl (fun ls hl => ?_)
          refine lv_goto (tgt := 4) hx hb dX2_countOf_28 (by decide) ?_
          exact ih_626 v_634 v_633 ls (tr_w h_v_634 (by decide) (by decide)) (by omega) (lv_sub hl [0, 1, 2, 3] rfl)
  exact lp_626 13 0 0 ls (⟨by decide, by decide⟩ : 0 ≤ (0 : Int32).toInt ∧ (0 : Int32).toInt ≤ 12) (by decide) (lv_sub hl [0, 1, 2, 3] rfl)
set_option maxHeartbeats 4000000 in
set_option maxRecDepth 100000 in
theorem c_X2_countWays (l : Launch) (D : va_G) (g : Nat → ClassId) (n : Nat) (n_nodes : Int32) (n_kind : Nat) (n_pay : Nat) (n_name : Nat) (n_ways : Nat) (n_held : Nat) (n_targets : Nat) (n_weights : Nat) (n_fways : Nat → Int32) (h_n_nodes : 0 ≤ (n_nodes : Int32).toInt ∧ (n_nodes : Int32).toInt ≤ 12) (h_n_fways : ∀ j : Nat, 0 ≤ (n_fways j).toInt ∧ (n_fways j).toInt ≤ 3) : Met l yX2_countWays (.code yX2_countWays cX2_countWays 3 (some .int) :: wsL_law) ({ frames := 0, cells := 0, slots := 0, locals := 0 }) (va_Pc [.ref n] (fun U => va_P D vwCl [(n, .inr (2, [.int n_nodes, .ref n_kind, .ref n_pay, .ref n_name, .ref n_ways, .ref n_held, .ref n_targets, .ref n_weights])), (n_ways, .inl (g 0, 12, .inl n_fways))] U.heap ∧ va_K D vwCl (TY g) U)) (vp_Si (fun r => True)) 0 0 (fun _ => False) := by
  refine Met.ofW (cc := cX2_countWays) (maxL := 3) (ret := (some .int)) (by decide) rfl ?_
  intro p e s m args below meth c s₁ B hml hv
  obtain ⟨ha, hP, hK⟩ := hv
  have hx := B.exec
  have hb := B.bytes
  have hr := B.returns
  have hts0 := atoms_spec (ws := (.code yX2_countWays cX2_countWays 3 (some .int) :: wsL_law)) B.pre
  have hts : ∀ w ∈ wsL_law, w.before args s = true := fun w h => hts0 w (List.mem_cons_of_mem _ h)
  have hown : s.vm.findClass RX2 = some m.cls := findClass_of_methodNamed B.named
  have hlocks := B.notSynchronized
  have hP : va_P D vwCl [(n, .inr (2, [.int n_nodes, .ref n_kind, .ref n_pay, .ref n_name, .ref n_ways, .ref n_held, .ref n_targets, .ref n_weights])), (n_ways, .inl (g 0, 12, .inl n_fways))] s.heap := hP
  refine W.eq (g2 := entryFrame m ([.ref n] : List Value).toArray 3) (by rw [ha]) ?_
  have hl := lv_entry ([.ref n]) (n := 3) (Nat.le_of_ble_eq_true rfl)
  rw [lg_entry_eq]
  generalize (lg_sl ([.ref n]) ++ List.replicate (3 - (lg_sl ([.ref n])).length) Slot.unset).toArray = ls at hl ⊢
  have hl : lv_has ls 3 [(0, .ref n)] := hl
  refine lv_iconst (v := 0) hx hb dX2_countWays_0 (by decide) ?_
  refine lv_istore_n (lv' := [(1, .int 0), (0, .ref n)]) hx hb dX2_countWays_1 rfl hl (by decide) rfl (fun ls hl => ?_)
  refine lv_iconst (v := 0) hx hb dX2_countWays_2 (by decide) ?_
  refine lv_istore_n (lv' := [(2, .int 0), (1, .int 0), (0, .ref n)]) hx hb dX2_countWays_3 rfl hl (by decide) rfl (fun ls hl => ?_)
  have lp_738 : ∀ (n_738 : Nat) (x_736 : Int32) (x_737 : Int32) (ls : Array Slot), (0 ≤ (x_736 : Int32).toInt ∧ (x_736 : Int32).toInt ≤ 12) → (12 - x_736.toInt < (n_738 : Int)) → lv_has ls 3 [(2, .int x_736), (1, .int x_737), (0, .ref n)] → W p l e (headSpec (.code yX2_countWays cX2_countWays 3 (some .int) :: wsL_law) ({ frames := 0, cells := 0, slots := 0, locals := 0 })).room s m args below meth c s.heap [] 0 0 (MQ below (vp_Si (fun r => True)) args s 0 0 (fun _ => False)) (F0 m 4 ls []) := by
    intro n_738
    induction n_738 with
    | zero =>
      intro x_736 x_737 ls h_x_736 hm_738 hl
      exfalso; omega
    | succ n_738 ih_738 =>
      intro x_736 x_737 ls h_x_736 hm_738 hl
      refine lv_iload_n hx hb dX2_countWays_4 rfl (lv_at hl 0 rfl) ?_
      refine lv_aload_n hx hb dX2_countWays_5 rfl (lv_at hl 2 rfl) ?_
      refine va_get (D := D) (ci := 2) (v := .int n_nodes) (C := RX2) (T := TX2) (N := 8) hx hb hts inlX2 hown hK hP 0 rfl rfl 0 (by decide) (hts (Cond.fieldLink RX2 33 "ChanceRings$Net" "nodes" "I") qw_0) (fun _ h9 => h9) rfl dX2_countWays_6 ?_
      refine lv_icmp_ge (tgt := 27) hx hb dX2_countWays_9 (by decide) (fun c_739 => ?_) (fun c_739 => ?_)
      · skip
        refine lv_iload_n hx hb dX2_countWays_27 rfl (lv_at hl 1 rfl) ?_
        exact W.iret (v := x_737) hx hb hr (fun t ht hW => ⟨x_737, rfl, trivial, ht⟩) (fun _ h => nomatch h) dX2_countWays_28
      · skip
        have c_739_i := Int32.lt_iff_toInt_lt.mp (Int32.not_le.mp c_739)
        have h_740 : 0 ≤ (x_736 : Int32).toInt ∧ (x_736 : Int32).toInt ≤ 11 := by have q1 := h_x_736; have q2 := h_n_nodes; omega
        have h_741 : 1 ≤ (n_nodes : Int32).toInt ∧ (n_nodes : Int32).toInt ≤ 12 := by have q1 := h_x_736; have q2 := h_n_nodes; omega
        refine lv_iload_n hx hb dX2_countWays_12 rfl (lv_at hl 1 rfl) ?_
        refine lv_aload_n hx hb dX2_countWays_13 rfl (lv_at hl 2 rfl) ?_
        refine va_get (D := D) (ci := 2) (v := .ref n_ways) (C := RX2) (T := TX2) (N := 8) hx hb hts inlX2 hown hK hP 0 rfl rfl 4 (by decide) (hts (Cond.fieldLink RX2 21 "ChanceRings$Net" "ways" "[I") qw_5) (fun _ h9 => h9) rfl dX2_countWays_14 ?_
        refine lv_iload_n hx hb dX2_countWays_17 rfl (lv_at hl 0 rfl) ?_
        refine va_iald hx hb hK hP 1 0 rfl rfl (tr_in h_740 (by decide) (by decide)) dX2_countWays_18 ?_
        refine lv_topi (fun v_742 v_742_e => ?_)
        have h_v_742 : 0 ≤ (v_742 : Int32).toInt ∧ (v_742 : Int32).toInt ≤ 3 := by rw [v_742_e]; exact h_n_fways _
        refine lv_iadd hx hb dX2_countWays_19 ?_
        refine lv_topi (fun v_743 v_743_e => ?_)
        refine lv_istore_n (lv' := [(1, .int v_743), (2, .int x_736), (0, .ref n)]) hx hb dX2_countWays_20 rfl hl (by decide) rfl (fun ls hl => ?_)
        obtain ⟨v_744, v_744_e⟩ : ∃ y : Int32, y = x_736 + Int32.ofInt 1 := ⟨_, rfl⟩
        have h_v_744 : 1 ≤ (v_744 : Int32).toInt ∧ (v_744 : Int32).toInt ≤ 12 := by rw [v_744_e]; exact tr_add h_740 (⟨by decide, by decide⟩ : 1 ≤ (Int32.ofInt 1 : Int32).toInt ∧ (Int32.ofInt 1 : Int32).toInt ≤ 1) (by decide) (by decide) (by decide) (by decide)
        have q_v_744 : v_744.toInt = x_736.toInt + 1 := by rw [v_744_e]; exact tr_addE h_740 (⟨by decide, by decide⟩ : 1 ≤ (Int32.ofInt 1 : Int32).toInt ∧ (Int32.ofInt 1 : Int32).toInt ≤ 1) (by decide) (by decide)
        refine lv_iinc (v := v_744) (lv' := [(2, .int v_744), (1, .int v_743), (0, .ref n)]) hx hb dX2_countWays_21 hl (k := 1) rfl v_744_e.symm (by decide) rfl (fun ls hl => ?_)
        refine lv_goto (tgt := 4) hx hb dX2_countWays_24 (by decide) ?_
        exact ih_738 v_744 v_743 ls (tr_w h_v_744 (by decide) (by decide)) (by omega) (lv_sub hl [0, 1, 2] rfl)
  exact lp_738 13 0 0 ls (⟨by decide, by decide⟩ : 0 ≤ (0 : Int32).toInt ∧ (0 : Int32).toInt ≤ 12) (by decide) (lv_sub hl [0, 1, 2] rfl)
set_option maxHeartbeats 4000000 in
set_option maxRecDepth 100000 in
theorem c_X2_countTakable (l : Launch) (D : va_G) (g : Nat → ClassId) (n : Nat) (p0 : Int32) (n_nodes : Int32) (n_kind : Nat) (n_pay : Nat) (n_name : Nat) (n_ways : Nat) (n_held : Nat) (n_targets : Nat) (n_weights : Nat) (n_fways : Nat → Int32) (n_fheld : Nat → Int32) (h_p0 : 0 ≤ (p0 : Int32).toInt ∧ (p0 : Int32).toInt ≤ 11) (h_n_nodes : 0 ≤ (n_nodes : Int32).toInt ∧ (n_nodes : Int32).toInt ≤ 12) (h_n_fways : ∀ j : Nat, 0 ≤ (n_fways j).toInt ∧ (n_fways j).toInt ≤ 3) (h_n_fheld : ∀ j : Nat, (-1) ≤ (n_fheld j).toInt ∧ (n_fheld j).toInt ≤ 2) : Met l yX2_countTakable (.code yX2_countTakable cX2_countTakable 2 (some .int) :: wsL_law) ({ frames := 0, cells := 0, slots := 0, locals := 0 }) (va_Pc [.ref n, .int p0] (fun U => va_P D vwCl [(n, .inr (2, [.int n_nodes, .ref n_kind, .ref n_pay, .ref n_name, .ref n_ways, .ref n_held, .ref n_targets, .ref n_weights])), (n_ways, .inl (g 0, 12, .inl n_fways)), (n_held, .inl (g 0, 12, .inl n_fheld))] U.heap ∧ va_K D vwCl (TY g) U)) (vp_Si (fun r => True)) 0 0 (fun _ => False) := by
  refine Met.ofW (cc := cX2_countTakable) (maxL := 2) (ret := (some .int)) (by decide) rfl ?_
  intro p e s m args below meth c s₁ B hml hv
  obtain ⟨ha, hP, hK⟩ := hv
  have hx := B.exec
  have hb := B.bytes
  have hr := B.returns
  have hts0 := atoms_spec (ws := (.code yX2_countTakable cX2_countTakable 2 (some .int) :: wsL_law)) B.pre
  have hts : ∀ w ∈ wsL_law, w.before args s = true := fun w h => hts0 w (List.mem_cons_of_mem _ h)
  have hown : s.vm.findClass RX2 = some m.cls := findClass_of_methodNamed B.named
  have hlocks := B.notSynchronized
  have hP : va_P D vwCl [(n, .inr (2, [.int n_nodes, .ref n_kind, .ref n_pay, .ref n_name, .ref n_ways, .ref n_held, .ref n_targets, .ref n_weights])), (n_ways, .inl (g 0, 12, .inl n_fways)), (n_held, .inl (g 0, 12, .inl n_fheld))] s.heap := hP
  refine W.eq (g2 := entryFrame m ([.ref n, .int p0] : List Value).toArray 2) (by rw [ha]) ?_
  have hl := lv_entry ([.ref n, .int p0]) (n := 2) (Nat.le_of_ble_eq_true rfl)
  rw [lg_entry_eq]
  generalize (lg_sl ([.ref n, .int p0]) ++ List.replicate (2 - (lg_sl ([.ref n, .int p0])).length) Slot.unset).toArray = ls at hl ⊢
  have hl : lv_has ls 2 [(0, .ref n), (1, .int p0)] := hl
  refine lv_aload_n hx hb dX2_countTakable_0 rfl (lv_at hl 0 rfl) ?_
  refine va_get (D := D) (ci := 2) (v := .ref n_held) (C := RX2) (T := TX2) (N := 8) hx hb hts inlX2 hown hK hP 0 rfl rfl 5 (by decide) (hts (Cond.fieldLink RX2 24 "ChanceRings$Net" "held" "[I") qw_1) (fun _ h9 => h9) rfl dX2_countTakable_1 ?_
  refine lv_iload_n hx hb dX2_countTakable_4 rfl (lv_at hl 1 rfl) ?_
  refine va_iald hx hb hK hP 2 0 rfl rfl (tr_in h_p0 (by decide) (by decide)) dX2_countTakable_5 ?_
  refine lv_topi (fun v_745 v_745_e => ?_)
  have h_v_745 : (-1) ≤ (v_745 : Int32).toInt ∧ (v_745 : Int32).toInt ≤ 2 := by rw [v_745_e]; exact h_n_fheld _
  refine lv_iconst (v := (-1)) hx hb dX2_countTakable_6 (by decide) ?_
  refine lv_icmp_ne (tgt := 19) hx hb dX2_countTakable_7 (by decide) (fun c_746 => ?_) (fun c_746 => ?_)
  · skip
    have c_746_i := c_746
    have c_746_i : ¬ (v_745 : Int32).toInt = ((-1) : Int32).toInt := (fun q => c_746 (Int32.toInt_inj.mp q))
    have h_747 : 0 ≤ (v_745 : Int32).toInt ∧ (v_745 : Int32).toInt ≤ 2 := by have q1 := h_v_745; have q2 := (⟨by decide, by decide⟩ : (-1) ≤ ((-1) : Int32).toInt ∧ ((-1) : Int32).toInt ≤ (-1)); omega
    refine lv_iconst (v := 1) hx hb dX2_countTakable_19 (by decide) ?_
    exact W.iret (v := 1) hx hb hr (fun t ht hW => ⟨1, rfl, trivial, ht⟩) (fun _ h => nomatch h) dX2_countTakable_20
  · skip
    have c_746_i := c_746
    have c_746_i : (v_745 : Int32).toInt = ((-1) : Int32).toInt := congrArg Int32.toInt c_746
    have h_748 : (-1) ≤ (v_745 : Int32).toInt ∧ (v_745 : Int32).toInt ≤ (-1) := by have q1 := h_v_745; have q2 := (⟨by decide, by decide⟩ : (-1) ≤ ((-1) : Int32).toInt ∧ ((-1) : Int32).toInt ≤ (-1)); omega
    refine lv_aload_n hx hb dX2_countTakable_10 rfl (lv_at hl 0 rfl) ?_
    refine va_get (D := D) (ci := 2) (v := .ref n_ways) (C := RX2) (T := TX2) (N := 8) hx hb hts inlX2 hown hK hP 0 rfl rfl 4 (by decide) (hts (Cond.fieldLink RX2 21 "ChanceRings$Net" "ways" "[I") qw_5) (fun _ h9 => h9) rfl dX2_countTakable_11 ?_
    refine lv_iload_n hx hb dX2_countTakable_14 rfl (lv_at hl 1 rfl) ?_
    refine va_iald hx hb hK hP 1 0 rfl rfl (tr_in h_p0 (by decide) (by decide)) dX2_countTakable_15 ?_
    refine lv_topi (fun v_749 v_749_e => ?_)
    have h_v_749 : 0 ≤ (v_749 : Int32).toInt ∧ (v_749 : Int32).toInt ≤ 3 := by rw [v_749_e]; exact h_n_fways _
    refine lv_goto (tgt := 20) hx hb dX2_countTakable_16 (by decide) ?_
    exact W.iret (v := v_749) hx hb hr (fun t ht hW => ⟨v_749, rfl, trivial, ht⟩) (fun _ h => nomatch h) dX2_countTakable_20
set_option maxHeartbeats 4000000 in
set_option maxRecDepth 100000 in
theorem c_X2_heldNodes (l : Launch) (D : va_G) (g : Nat → ClassId) (n : Nat) (n_nodes : Int32) (n_kind : Nat) (n_pay : Nat) (n_name : Nat) (n_ways : Nat) (n_held : Nat) (n_targets : Nat) (n_weights : Nat) (n_fheld : Nat → Int32) (h_n_nodes : 0 ≤ (n_nodes : Int32).toInt ∧ (n_nodes : Int32).toInt ≤ 12) (h_n_fheld : ∀ j : Nat, (-1) ≤ (n_fheld j).toInt ∧ (n_fheld j).toInt ≤ 2) : Met l yX2_heldNodes (.code yX2_heldNodes cX2_heldNodes 3 (some .int) :: wsL_law) ({ frames := 0, cells := 0, slots := 0, locals := 0 }) (va_Pc [.ref n] (fun U => va_P D vwCl [(n, .inr (2, [.int n_nodes, .ref n_kind, .ref n_pay, .ref n_name, .ref n_ways, .ref n_held, .ref n_targets, .ref n_weights])), (n_held, .inl (g 0, 12, .inl n_fheld))] U.heap ∧ va_K D vwCl (TY g) U)) (vp_Si (fun r => True)) 0 0 (fun _ => False) := by
  refine Met.ofW (cc := cX2_heldNodes) (maxL := 3) (ret := (some .int)) (by decide) rfl ?_
  intro p e s m args below meth c s₁ B hml hv
  obtain ⟨ha, hP, hK⟩ := hv
  have hx := B.exec
  have hb := B.bytes
  have hr := B.returns
  have hts0 := atoms_spec (ws := (.code yX2_heldNodes cX2_heldNodes 3 (some .int) :: wsL_law)) B.pre
  have hts : ∀ w ∈ wsL_law, w.before args s = true := fun w h => hts0 w (List.mem_cons_of_mem _ h)
  have hown : s.vm.findClass RX2 = some m.cls := findClass_of_methodNamed B.named
  have hlocks := B.notSynchronized
  have hP : va_P D vwCl [(n, .inr (2, [.int n_nodes, .ref n_kind, .ref n_pay, .ref n_name, .ref n_ways, .ref n_held, .ref n_targets, .ref n_weights])), (n_held, .inl (g 0, 12, .inl n_fheld))] s.heap := hP
  refine W.eq (g2 := entryFrame m ([.ref n] : List Value).toArray 3) (by rw [ha]) ?_
  have hl := lv_entry ([.ref n]) (n := 3) (Nat.le_of_ble_eq_true rfl)
  rw [lg_entry_eq]
  generalize (lg_sl ([.ref n]) ++ List.replicate (3 - (lg_sl ([.ref n])).length) Slot.unset).toArray = ls at hl ⊢
  have hl : lv_has ls 3 [(0, .ref n)] := hl
  refine lv_iconst (v := 0) hx hb dX2_heldNodes_0 (by decide) ?_
  refine lv_istore_n (lv' := [(1, .int 0), (0, .ref n)]) hx hb dX2_heldNodes_1 rfl hl (by decide) rfl (fun ls hl => ?_)
  refine lv_iconst (v := 0) hx hb dX2_heldNodes_2 (by decide) ?_
  refine lv_istore_n (lv' := [(2, .int 0), (1, .int 0), (0, .ref n)]) hx hb dX2_heldNodes_3 rfl hl (by decide) rfl (fun ls hl => ?_)
  have lp_850 : ∀ (n_850 : Nat) (x_848 : Int32) (x_849 : Int32) (ls : Array Slot), (0 ≤ (x_848 : Int32).toInt ∧ (x_848 : Int32).toInt ≤ 12) → (12 - x_848.toInt < (n_850 : Int)) → lv_has ls 3 [(2, .int x_848), (1, .int x_849), (0, .ref n)] → W p l e (headSpec (.code yX2_heldNodes cX2_heldNodes 3 (some .int) :: wsL_law) ({ frames := 0, cells := 0, slots := 0, locals := 0 })).room s m args below meth c s.heap [] 0 0 (MQ below (vp_Si (fun r => True)) args s 0 0 (fun _ => False)) (F0 m 4 ls []) := by
    intro n_850
    induction n_850 with
    | zero =>
      intro x_848 x_849 ls h_x_848 hm_850 hl
      exfalso; omega
    | succ n_850 ih_850 =>
      intro x_848 x_849 ls h_x_848 hm_850 hl
      refine lv_iload_n hx hb dX2_heldNodes_4 rfl (lv_at hl 0 rfl) ?_
      refine lv_aload_n hx hb dX2_heldNodes_5 rfl (lv_at hl 2 rfl) ?_
      refine va_get (D := D) (ci := 2) (v := .int n_nodes) (C := RX2) (T := TX2) (N := 8) hx hb hts inlX2 hown hK hP 0 rfl rfl 0 (by decide) (hts (Cond.fieldLink RX2 33 "ChanceRings$Net" "nodes" "I") qw_0) (fun _ h9 => h9) rfl dX2_heldNodes_6 ?_
      refine lv_icmp_ge (tgt := 34) hx hb dX2_heldNodes_9 (by decide) (fun c_851 => ?_) (fun c_851 => ?_)
      · skip
        refine lv_iload_n hx hb dX2_heldNodes_34 rfl (lv_at hl 1 rfl) ?_
        exact W.iret (v := x_849) hx hb hr (fun t ht hW => ⟨x_849, rfl, trivial, ht⟩) (fun _ h => nomatch h) dX2_heldNodes_35
      · skip
        have c_851_i := Int32.lt_iff_toInt_lt.mp (Int32.not_le.mp c_851)
        have h_852 : 0 ≤ (x_848 : Int32).toInt ∧ (x_848 : Int32).toInt ≤ 11 := by have q1 := h_x_848; have q2 := h_n_nodes; omega
        have h_853 : 1 ≤ (n_nodes : Int32).toInt ∧ (n_nodes : Int32).toInt ≤ 12 := by have q1 := h_x_848; have q2 := h_n_nodes; omega
        refine lv_aload_n hx hb dX2_heldNodes_12 rfl (lv_at hl 2 rfl) ?_
        refine va_get (D := D) (ci := 2) (v := .ref n_held) (C := RX2) (T := TX2) (N := 8) hx hb hts inlX2 hown hK hP 0 rfl rfl 5 (by decide) (hts (Cond.fieldLink RX2 24 "ChanceRings$Net" "held" "[I") qw_1) (fun _ h9 => h9) rfl dX2_heldNodes_13 ?_
        refine lv_iload_n hx hb dX2_heldNodes_16 rfl (lv_at hl 0 rfl) ?_
        refine va_iald hx hb hK hP 1 0 rfl rfl (tr_in h_852 (by decide) (by decide)) dX2_heldNodes_17 ?_
        refine lv_topi (fun v_854 v_854_e => ?_)
        have h_v_854 : (-1) ≤ (v_854 : Int32).toInt ∧ (v_854 : Int32).toInt ≤ 2 := by rw [v_854_e]; exact h_n_fheld _
        refine lv_iconst (v := (-1)) hx hb dX2_heldNodes_18 (by decide) ?_
        refine lv_icmp_eq (tgt := 28) hx hb dX2_heldNodes_19 (by decide) (fun c_855 => ?_) (fun c_855 => ?_)
        · skip
          have c_855_i := c_855
          have c_855_i : (v_854 : Int32).toInt = ((-1) : Int32).toInt := congrArg Int32.toInt c_855
          have h_856 : (-1) ≤ (v_854 : Int32).toInt ∧ (v_854 : Int32).toInt ≤ (-1) := by have q1 := h_v_854; have q2 := (⟨by decide, by decide⟩ : (-1) ≤ ((-1) : Int32).toInt ∧ ((-1) : Int32).toInt ≤ (-1)); omega
          obtain ⟨v_858, v_858_e⟩ : ∃ y : Int32, y = x_848 + Int32.ofInt 1 := ⟨_, rfl⟩
          have h_v_858 : 1 ≤ (v_858 : Int32).toInt ∧ (v_858 : Int32).toInt ≤ 12 := by rw [v_858_e]; exact tr_add h_852 (⟨by decide, by decide⟩ : 1 ≤ (Int32.ofInt 1 : Int32).toInt ∧ (Int32.ofInt 1 : Int32).toInt ≤ 1) (by decide) (by decide) (by decide) (by decide)
          have q_v_858 : v_858.toInt = x_848.toInt + 1 := by rw [v_858_e]; exact tr_addE h_852 (⟨by decide, by decide⟩ : 1 ≤ (Int32.ofInt 1 : Int32).toInt ∧ (Int32.ofInt 1 : Int32).toInt ≤ 1) (by decide) (by decide)
          refine lv_iinc (v := v_858) (lv' := [(2, .int v_858), (1, .int x_849), (0, .ref n)]) hx hb dX2_heldNodes_28 hl (k := 0) rfl v_858_e.symm (by decide) rfl (fun ls hl => ?_)
          refine lv_goto (tgt := 4) hx hb dX2_heldNodes_31 (by decide) ?_
          exact ih_850 v_858 x_849 ls (tr_w h_v_858 (by decide) (by decide)) (by omega) (lv_sub hl [0, 1, 2] rfl)
        · skip
          have c_855_i := c_855
          have c_855_i : ¬ (v_854 : Int32).toInt = ((-1) : Int32).toInt := (fun q => c_855 (Int32.toInt_inj.mp q))
          have h_857 : 0 ≤ (v_854 : Int32).toInt ∧ (v_854 : Int32).toInt ≤ 2 := by have q1 := h_v_854; have q2 := (⟨by decide, by decide⟩ : (-1) ≤ ((-1) : Int32).toInt ∧ ((-1) : Int32).toInt ≤ (-1)); omega
          refine lv_iload_n hx hb dX2_heldNodes_22 rfl (lv_at hl 1 rfl) ?_
          refine lv_iconst (v := 1) hx hb dX2_heldNodes_23 (by decide) ?_
          refine lv_iload_n hx hb dX2_heldNodes_24 rfl (lv_at hl 0 rfl) ?_
          refine lv_ishl hx hb dX2_heldNodes_25 ?_
          refine lv_topi (fun v_859 v_859_e => ?_)
          refine lv_ior hx hb dX2_heldNodes_26 ?_
          refine lv_topi (fun v_860 v_860_e => ?_)
          refine lv_istore_n (lv' := [(1, .int v_860), (2, .int x_848), (0, .ref n)]) hx hb dX2_heldNodes_27 rfl hl (by decide) rfl (fun ls hl => ?_)
          obtain ⟨v_861, v_861_e⟩ : ∃ y : Int32, y = x_848 + Int32.ofInt 1 := ⟨_, rfl⟩
          have h_v_861 : 1 ≤ (v_861 : Int32).toInt ∧ (v_861 : Int32).toInt ≤ 12 := by rw [v_861_e]; exact tr_add h_852 (⟨by decide, by decide⟩ : 1 ≤ (Int32.ofInt 1 : Int32).toInt ∧ (Int32.ofInt 1 : Int32).toInt ≤ 1) (by decide) (by decide) (by decide) (by decide)
          have q_v_861 : v_861.toInt = x_848.toInt + 1 := by rw [v_861_e]; exact tr_addE h_852 (⟨by decide, by decide⟩ : 1 ≤ (Int32.ofInt 1 : Int32).toInt ∧ (Int32.ofInt 1 : Int32).toInt ≤ 1) (by decide) (by decide)
          refine lv_iinc (v := v_861) (lv' := [(2, .int v_861), (1, .int v_860), (0, .ref n)]) hx hb dX2_heldNodes_28 hl (k := 1) rfl v_861_e.symm (by decide) rfl (fun ls hl => ?_)
          refine lv_goto (tgt := 4) hx hb dX2_heldNodes_31 (by decide) ?_
          exact ih_850 v_861 v_860 ls (tr_w h_v_861 (by decide) (by decide)) (by omega) (lv_sub hl [0, 1, 2] rfl)
  exact lp_850 13 0 0 ls (⟨by decide, by decide⟩ : 0 ≤ (0 : Int32).toInt ∧ (0 : Int32).toInt ≤ 12) (by decide) (lv_sub hl [0, 1, 2] rfl)
set_option maxHeartbeats 4000000 in
set_option maxRecDepth 100000 in
theorem c_X2_setWeight (l : Launch) (D : va_G) (g : Nat → ClassId) (sz : Nat) (n : Nat) (p0 : Int32) (p1 : Int32) (p2 : Int32) (n_nodes : Int32) (n_kind : Nat) (n_pay : Nat) (n_name : Nat) (n_ways : Nat) (n_held : Nat) (n_targets : Nat) (n_weights : Nat) (n_fweights : Nat → Int32) (h_p0 : 0 ≤ (p0 : Int32).toInt ∧ (p0 : Int32).toInt ≤ 11) (h_p1 : 0 ≤ (p1 : Int32).toInt ∧ (p1 : Int32).toInt ≤ 2) (h_n_nodes : 0 ≤ (n_nodes : Int32).toInt ∧ (n_nodes : Int32).toInt ≤ 12) : Met l yX2_setWeight (.code yX2_setWeight cX2_setWeight 4 none :: wsL_law) ({ frames := 0, cells := 0, slots := 0, locals := 0 }) (va_Pc [.ref n, .int p0, .int p1, .int p2] (fun U => U.heap.size = sz ∧ va_P D vwCl [(n, .inr (2, [.int n_nodes, .ref n_kind, .ref n_pay, .ref n_name, .ref n_ways, .ref n_held, .ref n_targets, .ref n_weights])), (n_weights, .inl (g 0, 36, .inl n_fweights))] U.heap ∧ va_K D vwCl (TY g) U ∧ va_D (fun _ => True) [(n, .inr (2, [.int n_nodes, .ref n_kind, .ref n_pay, .ref n_name, .ref n_ways, .ref n_held, .ref n_targets, .ref n_weights])), (n_weights, .inl (g 0, 36, .inl n_fweights))])) (va_Qv (fun (_ : Unit) => True) (fun _ t => ∃ n_gweights : Nat → Int32, va_P D vwCl [(n, .inr (2, [.int n_nodes, .ref n_kind, .ref n_pay, .ref n_name, .ref n_ways, .ref n_held, .ref n_targets, .ref n_weights])), (n_weights, .inl (g 0, 36, .inl n_gweights))] t.heap ∧ va_D (va_A [(n, .inr (2, [.int n_nodes, .ref n_kind, .ref n_pay, .ref n_name, .ref n_ways, .ref n_held, .ref n_targets, .ref n_weights])), (n_weights, .inl (g 0, 36, .inl n_fweights))] sz) [(n, .inr (2, [.int n_nodes, .ref n_kind, .ref n_pay, .ref n_name, .ref n_ways, .ref n_held, .ref n_targets, .ref n_weights])), (n_weights, .inl (g 0, 36, .inl n_gweights))]) (va_A [(n, .inr (2, [.int n_nodes, .ref n_kind, .ref n_pay, .ref n_name, .ref n_ways, .ref n_held, .ref n_targets, .ref n_weights])), (n_weights, .inl (g 0, 36, .inl n_fweights))] sz)) 0 0 (va_A [(n, .inr (2, [.int n_nodes, .ref n_kind, .ref n_pay, .ref n_name, .ref n_ways, .ref n_held, .ref n_targets, .ref n_weights])), (n_weights, .inl (g 0, 36, .inl n_fweights))] sz) := by
  refine Met.ofW (cc := cX2_setWeight) (maxL := 4) (ret := none) (by decide) rfl ?_
  intro p e s m args below meth c s₁ B hml hv
  obtain ⟨ha, hsz, hP, hK, hD0⟩ := hv
  have hx := B.exec
  have hb := B.bytes
  have hr := B.returns
  have hts0 := atoms_spec (ws := (.code yX2_setWeight cX2_setWeight 4 none :: wsL_law)) B.pre
  have hts : ∀ w ∈ wsL_law, w.before args s = true := fun w h => hts0 w (List.mem_cons_of_mem _ h)
  have hown : s.vm.findClass RX2 = some m.cls := findClass_of_methodNamed B.named
  have hlocks := B.notSynchronized
  subst hsz
  have hD := hD0.self (sz := s.heap.size)
  generalize hAe : va_A [(n, .inr (2, [.int n_nodes, .ref n_kind, .ref n_pay, .ref n_name, .ref n_ways, .ref n_held, .ref n_targets, .ref n_weights])), (n_weights, .inl (g 0, 36, .inl n_fweights))] s.heap.size = A at hD ⊢
  have hA : ∀ q : Nat, s.heap.size ≤ q → A q := fun q h => by rw [← hAe]; exact Or.inr h
  have hS : va_S A s.heap s.heap [] := va_S.rf
  have hP : va_P D vwCl [(n, .inr (2, [.int n_nodes, .ref n_kind, .ref n_pay, .ref n_name, .ref n_ways, .ref n_held, .ref n_targets, .ref n_weights])), (n_weights, .inl (g 0, 36, .inl n_fweights))] s.heap := hP
  refine W.eq (g2 := entryFrame m ([.ref n, .int p0, .int p1, .int p2] : List Value).toArray 4) (by rw [ha]) ?_
  have hl := lv_entry ([.ref n, .int p0, .int p1, .int p2]) (n := 4) (Nat.le_of_ble_eq_true rfl)
  rw [lg_entry_eq]
  generalize (lg_sl ([.ref n, .int p0, .int p1, .int p2]) ++ List.replicate (4 - (lg_sl ([.ref n, .int p0, .int p1, .int p2])).length) Slot.unset).toArray = ls at hl ⊢
  have hl : lv_has ls 4 [(0, .ref n), (1, .int p0), (2, .int p1), (3, .int p2)] := hl
  refine lv_aload_n hx hb dX2_setWeight_0 rfl (lv_at hl 0 rfl) ?_
  refine va_get (D := D) (ci := 2) (v := .ref n_weights) (C := RX2) (T := TX2) (N := 8) hx hb hts inlX2 hown hK hP 0 rfl rfl 7 (by decide) (hts (Cond.fieldLink RX2 30 "ChanceRings$Net" "weights" "[I") qw_19) (fun _ h9 => h9) rfl dX2_setWeight_1 ?_
  refine lv_iload_n hx hb dX2_setWeight_4 rfl (lv_at hl 1 rfl) ?_
  refine lv_iconst (v := 3) hx hb dX2_setWeight_5 (by decide) ?_
  refine lv_imul hx hb dX2_setWeight_6 ?_
  refine lv_topi (fun v_862 v_862_e => ?_)
  have h_v_862 : 0 ≤ (v_862 : Int32).toInt ∧ (v_862 : Int32).toInt ≤ 33 := by rw [v_862_e]; exact tr_mul h_p0 (⟨by decide, by decide⟩ : 3 ≤ (3 : Int32).toInt ∧ (3 : Int32).toInt ≤ 3) (by decide) (by decide) (by decide) (by decide)
  refine lv_iload_n hx hb dX2_setWeight_7 rfl (lv_at hl 2 rfl) ?_
  refine lv_iadd hx hb dX2_setWeight_8 ?_
  refine lv_topi (fun v_863 v_863_e => ?_)
  have h_v_863 : 0 ≤ (v_863 : Int32).toInt ∧ (v_863 : Int32).toInt ≤ 35 := by rw [v_863_e]; exact tr_add h_v_862 h_p1 (by decide) (by decide) (by decide) (by decide)
  refine lv_iload_n hx hb dX2_setWeight_9 rfl (lv_at hl 3 rfl) ?_
  refine va_iast hx hb hK hP hD hS 1 0 rfl rfl (tr_in h_v_863 (by decide) (by decide)) dX2_setWeight_10 (fun H locs hP hD hS => ?_)
  obtain ⟨f_864, hP, hD⟩ : ∃ FX : Nat → Int32, va_P D vwCl [(n, .inr (2, [.int n_nodes, .ref n_kind, .ref n_pay, .ref n_name, .ref n_ways, .ref n_held, .ref n_targets, .ref n_weights])), (n_weights, .inl (g 0, 36, .inl FX))] H ∧ va_D A [(n, .inr (2, [.int n_nodes, .ref n_kind, .ref n_pay, .ref n_name, .ref n_ways, .ref n_held, .ref n_targets, .ref n_weights])), (n_weights, .inl (g 0, 36, .inl FX))] := ⟨_, hP, hD⟩
  have hP : va_P D vwCl [(n, .inr (2, [.int n_nodes, .ref n_kind, .ref n_pay, .ref n_name, .ref n_ways, .ref n_held, .ref n_targets, .ref n_weights])), (n_weights, .inl (g 0, 36, .inl f_864))] H := hP
  have hD : va_D A [(n, .inr (2, [.int n_nodes, .ref n_kind, .ref n_pay, .ref n_name, .ref n_ways, .ref n_held, .ref n_targets, .ref n_weights])), (n_weights, .inl (g 0, 36, .inl f_864))] := hD
  have hP9 := hP.sub (ws' := [(n, .inr (2, [.int n_nodes, .ref n_kind, .ref n_pay, .ref n_name, .ref n_ways, .ref n_held, .ref n_targets, .ref n_weights])), (n_weights, .inl (g 0, 36, .inl f_864))]) [0, 1] rfl
  have hD9 := hD.sub (ws' := [(n, .inr (2, [.int n_nodes, .ref n_kind, .ref n_pay, .ref n_name, .ref n_ways, .ref n_held, .ref n_targets, .ref n_weights])), (n_weights, .inl (g 0, 36, .inl f_864))]) [0, 1] (by decide) rfl
  exact W.vret hx hb hr (fun t ht hW => ⟨⟨(), rfl, trivial, f_864, by rw [ht]; exact hP9, hD9⟩, hS.F ht⟩) hS.2.2 dX2_setWeight_11
set_option maxHeartbeats 4000000 in
set_option maxRecDepth 100000 in
theorem c_X2_addNode (l : Launch) (D : va_G) (g : Nat → ClassId) (sz : Nat) (n : Nat) (p0 : Int32) (p1 : Int32) (p2 : Int32) (n_nodes : Int32) (n_kind : Nat) (n_pay : Nat) (n_name : Nat) (n_ways : Nat) (n_held : Nat) (n_targets : Nat) (n_weights : Nat) (n_fkind : Nat → Int32) (n_fpay : Nat → Int32) (n_fname : Nat → Int32) (n_fways : Nat → Int32) (n_fheld : Nat → Int32) (h_p0 : 0 ≤ (p0 : Int32).toInt ∧ (p0 : Int32).toInt ≤ 3) (h_n_nodes : 0 ≤ (n_nodes : Int32).toInt ∧ (n_nodes : Int32).toInt ≤ 12) (h_n_fkind : ∀ j : Nat, 0 ≤ (n_fkind j).toInt ∧ (n_fkind j).toInt ≤ 3) (h_n_fways : ∀ j : Nat, 0 ≤ (n_fways j).toInt ∧ (n_fways j).toInt ≤ 3) (h_n_fheld : ∀ j : Nat, (-1) ≤ (n_fheld j).toInt ∧ (n_fheld j).toInt ≤ 2) : Met l yX2_addNode (.code yX2_addNode cX2_addNode 4 none :: wsL_law) ({ frames := 0, cells := 0, slots := 0, locals := 0 }) (va_Pc [.ref n, .int p0, .int p1, .int p2] (fun U => U.heap.size = sz ∧ va_P D vwCl [(n, .inr (2, [.int n_nodes, .ref n_kind, .ref n_pay, .ref n_name, .ref n_ways, .ref n_held, .ref n_targets, .ref n_weights])), (n_kind, .inl (g 0, 12, .inl n_fkind)), (n_pay, .inl (g 0, 12, .inl n_fpay)), (n_name, .inl (g 0, 12, .inl n_fname)), (n_ways, .inl (g 0, 12, .inl n_fways)), (n_held, .inl (g 0, 12, .inl n_fheld))] U.heap ∧ va_K D vwCl (TY g) U ∧ va_D (fun _ => True) [(n, .inr (2, [.int n_nodes, .ref n_kind, .ref n_pay, .ref n_name, .ref n_ways, .ref n_held, .ref n_targets, .ref n_weights])), (n_kind, .inl (g 0, 12, .inl n_fkind)), (n_pay, .inl (g 0, 12, .inl n_fpay)), (n_name, .inl (g 0, 12, .inl n_fname)), (n_ways, .inl (g 0, 12, .inl n_fways)), (n_held, .inl (g 0, 12, .inl n_fheld))])) (va_Qv (fun (_ : Unit) => True) (fun _ t => ∃ on : Int32, ∃ n_gkind : Nat → Int32, ∃ n_gpay : Nat → Int32, ∃ n_gname : Nat → Int32, ∃ n_gways : Nat → Int32, ∃ n_gheld : Nat → Int32, (0 ≤ (on : Int32).toInt ∧ (on : Int32).toInt ≤ 12) ∧ (∀ j : Nat, 0 ≤ (n_gkind j).toInt ∧ (n_gkind j).toInt ≤ 3) ∧ (∀ j : Nat, 0 ≤ (n_gways j).toInt ∧ (n_gways j).toInt ≤ 3) ∧ (∀ j : Nat, (-1) ≤ (n_gheld j).toInt ∧ (n_gheld j).toInt ≤ 2) ∧ va_P D vwCl [(n, .inr (2, [.int on, .ref n_kind, .ref n_pay, .ref n_name, .ref n_ways, .ref n_held, .ref n_targets, .ref n_weights])), (n_kind, .inl (g 0, 12, .inl n_gkind)), (n_pay, .inl (g 0, 12, .inl n_gpay)), (n_name, .inl (g 0, 12, .inl n_gname)), (n_ways, .inl (g 0, 12, .inl n_gways)), (n_held, .inl (g 0, 12, .inl n_gheld))] t.heap ∧ va_D (va_A [(n, .inr (2, [.int n_nodes, .ref n_kind, .ref n_pay, .ref n_name, .ref n_ways, .ref n_held, .ref n_targets, .ref n_weights])), (n_kind, .inl (g 0, 12, .inl n_fkind)), (n_pay, .inl (g 0, 12, .inl n_fpay)), (n_name, .inl (g 0, 12, .inl n_fname)), (n_ways, .inl (g 0, 12, .inl n_fways)), (n_held, .inl (g 0, 12, .inl n_fheld))] sz) [(n, .inr (2, [.int on, .ref n_kind, .ref n_pay, .ref n_name, .ref n_ways, .ref n_held, .ref n_targets, .ref n_weights])), (n_kind, .inl (g 0, 12, .inl n_gkind)), (n_pay, .inl (g 0, 12, .inl n_gpay)), (n_name, .inl (g 0, 12, .inl n_gname)), (n_ways, .inl (g 0, 12, .inl n_gways)), (n_held, .inl (g 0, 12, .inl n_gheld))]) (va_A [(n, .inr (2, [.int n_nodes, .ref n_kind, .ref n_pay, .ref n_name, .ref n_ways, .ref n_held, .ref n_targets, .ref n_weights])), (n_kind, .inl (g 0, 12, .inl n_fkind)), (n_pay, .inl (g 0, 12, .inl n_fpay)), (n_name, .inl (g 0, 12, .inl n_fname)), (n_ways, .inl (g 0, 12, .inl n_fways)), (n_held, .inl (g 0, 12, .inl n_fheld))] sz)) 0 0 (va_A [(n, .inr (2, [.int n_nodes, .ref n_kind, .ref n_pay, .ref n_name, .ref n_ways, .ref n_held, .ref n_targets, .ref n_weights])), (n_kind, .inl (g 0, 12, .inl n_fkind)), (n_pay, .inl (g 0, 12, .inl n_fpay)), (n_name, .inl (g 0, 12, .inl n_fname)), (n_ways, .inl (g 0, 12, .inl n_fways)), (n_held, .inl (g 0, 12, .inl n_fheld))] sz) := by
  refine Met.ofW (cc := cX2_addNode) (maxL := 4) (ret := none) (by decide) rfl ?_
  intro p e s m args below meth c s₁ B hml hv
  obtain ⟨ha, hsz, hP, hK, hD0⟩ := hv
  have hx := B.exec
  have hb := B.bytes
  have hr := B.returns
  have hts0 := atoms_spec (ws := (.code yX2_addNode cX2_addNode 4 none :: wsL_law)) B.pre
  have hts : ∀ w ∈ wsL_law, w.before args s = true := fun w h => hts0 w (List.mem_cons_of_mem _ h)
  have hown : s.vm.findClass RX2 = some m.cls := findClass_of_methodNamed B.named
  have hlocks := B.notSynchronized
  subst hsz
  have hD := hD0.self (sz := s.heap.size)
  generalize hAe : va_A [(n, .inr (2, [.int n_nodes, .ref n_kind, .ref n_pay, .ref n_name, .ref n_ways, .ref n_held, .ref n_targets, .ref n_weights])), (n_kind, .inl (g 0, 12, .inl n_fkind)), (n_pay, .inl (g 0, 12, .inl n_fpay)), (n_name, .inl (g 0, 12, .inl n_fname)), (n_ways, .inl (g 0, 12, .inl n_fways)), (n_held, .inl (g 0, 12, .inl n_fheld))] s.heap.size = A at hD ⊢
  have hA : ∀ q : Nat, s.heap.size ≤ q → A q := fun q h => by rw [← hAe]; exact Or.inr h
  have hS : va_S A s.heap s.heap [] := va_S.rf
  have hP : va_P D vwCl [(n, .inr (2, [.int n_nodes, .ref n_kind, .ref n_pay, .ref n_name, .ref n_ways, .ref n_held, .ref n_targets, .ref n_weights])), (n_kind, .inl (g 0, 12, .inl n_fkind)), (n_pay, .inl (g 0, 12, .inl n_fpay)), (n_name, .inl (g 0, 12, .inl n_fname)), (n_ways, .inl (g 0, 12, .inl n_fways)), (n_held, .inl (g 0, 12, .inl n_fheld))] s.heap := hP
  refine W.eq (g2 := entryFrame m ([.ref n, .int p0, .int p1, .int p2] : List Value).toArray 4) (by rw [ha]) ?_
  have hl := lv_entry ([.ref n, .int p0, .int p1, .int p2]) (n := 4) (Nat.le_of_ble_eq_true rfl)
  rw [lg_entry_eq]
  generalize (lg_sl ([.ref n, .int p0, .int p1, .int p2]) ++ List.replicate (4 - (lg_sl ([.ref n, .int p0, .int p1, .int p2])).length) Slot.unset).toArray = ls at hl ⊢
  have hl : lv_has ls 4 [(0, .ref n), (1, .int p0), (2, .int p1), (3, .int p2)] := hl
  refine lv_aload_n hx hb dX2_addNode_0 rfl (lv_at hl 0 rfl) ?_
  refine va_get (D := D) (ci := 2) (v := .int n_nodes) (C := RX2) (T := TX2) (N := 8) hx hb hts inlX2 hown hK hP 0 rfl rfl 0 (by decide) (hts (Cond.fieldLink RX2 33 "ChanceRings$Net" "nodes" "I") qw_0) (fun _ h9 => h9) rfl dX2_addNode_1 ?_
  refine lv_bipush (v := 12) hx hb dX2_addNode_4 (by decide) ?_
  refine lv_icmp_ge (tgt := 69) hx hb dX2_addNode_6 (by decide) (fun c_865 => ?_) (fun c_865 => ?_)
  · skip
    have c_865_i := Int32.le_iff_toInt_le.mp c_865
    have h_866 : 12 ≤ (n_nodes : Int32).toInt ∧ (n_nodes : Int32).toInt ≤ 12 := by have q1 := h_n_nodes; have q2 := (⟨by decide, by decide⟩ : 12 ≤ (12 : Int32).toInt ∧ (12 : Int32).toInt ≤ 12); omega
    have hP9 := hP.sub (ws' := [(n, .inr (2, [.int n_nodes, .ref n_kind, .ref n_pay, .ref n_name, .ref n_ways, .ref n_held, .ref n_targets, .ref n_weights])), (n_kind, .inl (g 0, 12, .inl n_fkind)), (n_pay, .inl (g 0, 12, .inl n_fpay)), (n_name, .inl (g 0, 12, .inl n_fname)), (n_ways, .inl (g 0, 12, .inl n_fways)), (n_held, .inl (g 0, 12, .inl n_fheld))]) [0, 1, 2, 3, 4, 5] rfl
    have hD9 := hD.sub (ws' := [(n, .inr (2, [.int n_nodes, .ref n_kind, .ref n_pay, .ref n_name, .ref n_ways, .ref n_held, .ref n_targets, .ref n_weights])), (n_kind, .inl (g 0, 12, .inl n_fkind)), (n_pay, .inl (g 0, 12, .inl n_fpay)), (n_name, .inl (g 0, 12, .inl n_fname)), (n_ways, .inl (g 0, 12, .inl n_fways)), (n_held, .inl (g 0, 12, .inl n_fheld))]) [0, 1, 2, 3, 4, 5] (by decide) rfl
    exact W.vret hx hb hr (fun t ht hW => ⟨⟨(), rfl, trivial, n_nodes, n_fkind, n_fpay, n_fname, n_fways, n_fheld, (tr_w h_866 (by decide) (by decide)), (tr_wa h_n_fkind (by decide) (by decide)), (tr_wa h_n_fways (by decide) (by decide)), (tr_wa h_n_fheld (by decide) (by decide)), by rw [ht]; exact hP9, hD9⟩, hS.F ht⟩) hS.2.2 dX2_addNode_69
  · skip
    have c_865_i := Int32.lt_iff_toInt_lt.mp (Int32.not_le.mp c_865)
    have h_867 : 0 ≤ (n_nodes : Int32).toInt ∧ (n_nodes : Int32).toInt ≤ 11 := by have q1 := h_n_nodes; have q2 := (⟨by decide, by decide⟩ : 12 ≤ (12 : Int32).toInt ∧ (12 : Int32).toInt ≤ 12); omega
    refine lv_aload_n hx hb dX2_addNode_9 rfl (lv_at hl 0 rfl) ?_
    refine va_get (D := D) (ci := 2) (v := .ref n_kind) (C := RX2) (T := TX2) (N := 8) hx hb hts inlX2 hown hK hP 0 rfl rfl 1 (by decide) (hts (Cond.fieldLink RX2 9 "ChanceRings$Net" "kind" "[I") qw_3) (fun _ h9 => h9) rfl dX2_addNode_10 ?_
    refine lv_aload_n hx hb dX2_addNode_13 rfl (lv_at hl 0 rfl) ?_
    refine va_get (D := D) (ci := 2) (v := .int n_nodes) (C := RX2) (T := TX2) (N := 8) hx hb hts inlX2 hown hK hP 0 rfl rfl 0 (by decide) (hts (Cond.fieldLink RX2 33 "ChanceRings$Net" "nodes" "I") qw_0) (fun _ h9 => h9) rfl dX2_addNode_14 ?_
    refine lv_iload_n hx hb dX2_addNode_17 rfl (lv_at hl 1 rfl) ?_
    refine va_iast hx hb hK hP hD hS 1 0 rfl rfl (tr_in h_867 (by decide) (by decide)) dX2_addNode_18 (fun H locs hP hD hS => ?_)
    obtain ⟨f_868, h_f_868, hP, hD⟩ : ∃ FX : Nat → Int32, (∀ j : Nat, 0 ≤ (FX j).toInt ∧ (FX j).toInt ≤ 3) ∧ va_P D vwCl [(n, .inr (2, [.int n_nodes, .ref n_kind, .ref n_pay, .ref n_name, .ref n_ways, .ref n_held, .ref n_targets, .ref n_weights])), (n_kind, .inl (g 0, 12, .inl FX)), (n_pay, .inl (g 0, 12, .inl n_fpay)), (n_name, .inl (g 0, 12, .inl n_fname)), (n_ways, .inl (g 0, 12, .inl n_fways)), (n_held, .inl (g 0, 12, .inl n_fheld))] H ∧ va_D A [(n, .inr (2, [.int n_nodes, .ref n_kind, .ref n_pay, .ref n_name, .ref n_ways, .ref n_held, .ref n_targets, .ref n_weights])), (n_kind, .inl (g 0, 12, .inl FX)), (n_pay, .inl (g 0, 12, .inl n_fpay)), (n_name, .inl (g 0, 12, .inl n_fname)), (n_ways, .inl (g 0, 12, .inl n_fways)), (n_held, .inl (g 0, 12, .inl n_fheld))] := ⟨_, tr_upd h_n_fkind (tr_w h_p0 (by decide) (by decide)), hP, hD⟩
    have hP : va_P D vwCl [(n, .inr (2, [.int n_nodes, .ref n_kind, .ref n_pay, .ref n_name, .ref n_ways, .ref n_held, .ref n_targets, .ref n_weights])), (n_kind, .inl (g 0, 12, .inl f_868)), (n_pay, .inl (g 0, 12, .inl n_fpay)), (n_name, .inl (g 0, 12, .inl n_fname)), (n_ways, .inl (g 0, 12, .inl n_fways)), (n_held, .inl (g 0, 12, .inl n_fheld))] H := hP
    have hD : va_D A [(n, .inr (2, [.int n_nodes, .ref n_kind, .ref n_pay, .ref n_name, .ref n_ways, .ref n_held, .ref n_targets, .ref n_weights])), (n_kind, .inl (g 0, 12, .inl f_868)), (n_pay, .inl (g 0, 12, .inl n_fpay)), (n_name, .inl (g 0, 12, .inl n_fname)), (n_ways, .inl (g 0, 12, .inl n_fways)), (n_held, .inl (g 0, 12, .inl n_fheld))] := hD
    refine lv_aload_n hx hb dX2_addNode_19 rfl (lv_at hl 0 rfl) ?_
    refine va_get (D := D) (ci := 2) (v := .ref n_name) (C := RX2) (T := TX2) (N := 8) hx hb hts inlX2 hown hK hP 0 rfl rfl 3 (by decide) (hts (Cond.fieldLink RX2 18 "ChanceRings$Net" "name" "[I") qw_20) (fun _ h9 => h9) rfl dX2_addNode_20 ?_
    refine lv_aload_n hx hb dX2_addNode_23 rfl (lv_at hl 0 rfl) ?_
    refine va_get (D := D) (ci := 2) (v := .int n_nodes) (C := RX2) (T := TX2) (N := 8) hx hb hts inlX2 hown hK hP 0 rfl rfl 0 (by decide) (hts (Cond.fieldLink RX2 33 "ChanceRings$Net" "nodes" "I") qw_0) (fun _ h9 => h9) rfl dX2_addNode_24 ?_
    refine lv_iload_n hx hb dX2_addNode_27 rfl (lv_at hl 2 rfl) ?_
    refine va_iast hx hb hK hP hD hS 3 0 rfl rfl (tr_in h_867 (by decide) (by decide)) dX2_addNode_28 (fun H locs hP hD hS => ?_)
    obtain ⟨f_869, hP, hD⟩ : ∃ FX : Nat → Int32, va_P D vwCl [(n, .inr (2, [.int n_nodes, .ref n_kind, .ref n_pay, .ref n_name, .ref n_ways, .ref n_held, .ref n_targets, .ref n_weights])), (n_kind, .inl (g 0, 12, .inl f_868)), (n_pay, .inl (g 0, 12, .inl n_fpay)), (n_name, .inl (g 0, 12, .inl FX)), (n_ways, .inl (g 0, 12, .inl n_fways)), (n_held, .inl (g 0, 12, .inl n_fheld))] H ∧ va_D A [(n, .inr (2, [.int n_nodes, .ref n_kind, .ref n_pay, .ref n_name, .ref n_ways, .ref n_held, .ref n_targets, .ref n_weights])), (n_kind, .inl (g 0, 12, .inl f_868)), (n_pay, .inl (g 0, 12, .inl n_fpay)), (n_name, .inl (g 0, 12, .inl FX)), (n_ways, .inl (g 0, 12, .inl n_fways)), (n_held, .inl (g 0, 12, .inl n_fheld))] := ⟨_, hP, hD⟩
    have hP : va_P D vwCl [(n, .inr (2, [.int n_nodes, .ref n_kind, .ref n_pay, .ref n_name, .ref n_ways, .ref n_held, .ref n_targets, .ref n_weights])), (n_kind, .inl (g 0, 12, .inl f_868)), (n_pay, .inl (g 0, 12, .inl n_fpay)), (n_name, .inl (g 0, 12, .inl f_869)), (n_ways, .inl (g 0, 12, .inl n_fways)), (n_held, .inl (g 0, 12, .inl n_fheld))] H := hP
    have hD : va_D A [(n, .inr (2, [.int n_nodes, .ref n_kind, .ref n_pay, .ref n_name, .ref n_ways, .ref n_held, .ref n_targets, .ref n_weights])), (n_kind, .inl (g 0, 12, .inl f_868)), (n_pay, .inl (g 0, 12, .inl n_fpay)), (n_name, .inl (g 0, 12, .inl f_869)), (n_ways, .inl (g 0, 12, .inl n_fways)), (n_held, .inl (g 0, 12, .inl n_fheld))] := hD
    refine lv_aload_n hx hb dX2_addNode_29 rfl (lv_at hl 0 rfl) ?_
    refine va_get (D := D) (ci := 2) (v := .ref n_pay) (C := RX2) (T := TX2) (N := 8) hx hb hts inlX2 hown hK hP 0 rfl rfl 2 (by decide) (hts (Cond.fieldLink RX2 15 "ChanceRings$Net" "pay" "[I") qw_4) (fun _ h9 => h9) rfl dX2_addNode_30 ?_
    refine lv_aload_n hx hb dX2_addNode_33 rfl (lv_at hl 0 rfl) ?_
    refine va_get (D := D) (ci := 2) (v := .int n_nodes) (C := RX2) (T := TX2) (N := 8) hx hb hts inlX2 hown hK hP 0 rfl rfl 0 (by decide) (hts (Cond.fieldLink RX2 33 "ChanceRings$Net" "nodes" "I") qw_0) (fun _ h9 => h9) rfl dX2_addNode_34 ?_
    refine lv_iload_n hx hb dX2_addNode_37 rfl (lv_at hl 3 rfl) ?_
    refine va_iast hx hb hK hP hD hS 2 0 rfl rfl (tr_in h_867 (by decide) (by decide)) dX2_addNode_38 (fun H locs hP hD hS => ?_)
    obtain ⟨f_870, hP, hD⟩ : ∃ FX : Nat → Int32, va_P D vwCl [(n, .inr (2, [.int n_nodes, .ref n_kind, .ref n_pay, .ref n_name, .ref n_ways, .ref n_held, .ref n_targets, .ref n_weights])), (n_kind, .inl (g 0, 12, .inl f_868)), (n_pay, .inl (g 0, 12, .inl FX)), (n_name, .inl (g 0, 12, .inl f_869)), (n_ways, .inl (g 0, 12, .inl n_fways)), (n_held, .inl (g 0, 12, .inl n_fheld))] H ∧ va_D A [(n, .inr (2, [.int n_nodes, .ref n_kind, .ref n_pay, .ref n_name, .ref n_ways, .ref n_held, .ref n_targets, .ref n_weights])), (n_kind, .inl (g 0, 12, .inl f_868)), (n_pay, .inl (g 0, 12, .inl FX)), (n_name, .inl (g 0, 12, .inl f_869)), (n_ways, .inl (g 0, 12, .inl n_fways)), (n_held, .inl (g 0, 12, .inl n_fheld))] := ⟨_, hP, hD⟩
    have hP : va_P D vwCl [(n, .inr (2, [.int n_nodes, .ref n_kind, .ref n_pay, .ref n_name, .ref n_ways, .ref n_held, .ref n_targets, .ref n_weights])), (n_kind, .inl (g 0, 12, .inl f_868)), (n_pay, .inl (g 0, 12, .inl f_870)), (n_name, .inl (g 0, 12, .inl f_869)), (n_ways, .inl (g 0, 12, .inl n_fways)), (n_held, .inl (g 0, 12, .inl n_fheld))] H := hP
    have hD : va_D A [(n, .inr (2, [.int n_nodes, .ref n_kind, .ref n_pay, .ref n_name, .ref n_ways, .ref n_held, .ref n_targets, .ref n_weights])), (n_kind, .inl (g 0, 12, .inl f_868)), (n_pay, .inl (g 0, 12, .inl f_870)), (n_name, .inl (g 0, 12, .inl f_869)), (n_ways, .inl (g 0, 12, .inl n_fways)), (n_held, .inl (g 0, 12, .inl n_fheld))] := hD
    refine lv_aload_n hx hb dX2_addNode_39 rfl (lv_at hl 0 rfl) ?_
    refine va_get (D := D) (ci := 2) (v := .ref n_ways) (C := RX2) (T := TX2) (N := 8) hx hb hts inlX2 hown hK hP 0 rfl rfl 4 (by decide) (hts (Cond.fieldLink RX2 21 "ChanceRings$Net" "ways" "[I") qw_5) (fun _ h9 => h9) rfl dX2_addNode_40 ?_
    refine lv_aload_n hx hb dX2_addNode_43 rfl (lv_at hl 0 rfl) ?_
    refine va_get (D := D) (ci := 2) (v := .int n_nodes) (C := RX2) (T := TX2) (N := 8) hx hb hts inlX2 hown hK hP 0 rfl rfl 0 (by decide) (hts (Cond.fieldLink RX2 33 "ChanceRings$Net" "nodes" "I") qw_0) (fun _ h9 => h9) rfl dX2_addNode_44 ?_
    refine lv_iconst (v := 0) hx hb dX2_addNode_47 (by decide) ?_
    refine va_iast hx hb hK hP hD hS 4 0 rfl rfl (tr_in h_867 (by decide) (by decide)) dX2_addNode_48 (fun H locs hP hD hS => ?_)
    obtain ⟨f_871, h_f_871, hP, hD⟩ : ∃ FX : Nat → Int32, (∀ j : Nat, 0 ≤ (FX j).toInt ∧ (FX j).toInt ≤ 3) ∧ va_P D vwCl [(n, .inr (2, [.int n_nodes, .ref n_kind, .ref n_pay, .ref n_name, .ref n_ways, .ref n_held, .ref n_targets, .ref n_weights])), (n_kind, .inl (g 0, 12, .inl f_868)), (n_pay, .inl (g 0, 12, .inl f_870)), (n_name, .inl (g 0, 12, .inl f_869)), (n_ways, .inl (g 0, 12, .inl FX)), (n_held, .inl (g 0, 12, .inl n_fheld))] H ∧ va_D A [(n, .inr (2, [.int n_nodes, .ref n_kind, .ref n_pay, .ref n_name, .ref n_ways, .ref n_held, .ref n_targets, .ref n_weights])), (n_kind, .inl (g 0, 12, .inl f_868)), (n_pay, .inl (g 0, 12, .inl f_870)), (n_name, .inl (g 0, 12, .inl f_869)), (n_ways, .inl (g 0, 12, .inl FX)), (n_held, .inl (g 0, 12, .inl n_fheld))] := ⟨_, tr_upd h_n_fways (⟨by decide, by decide⟩ : 0 ≤ (0 : Int32).toInt ∧ (0 : Int32).toInt ≤ 3), hP, hD⟩
    have hP : va_P D vwCl [(n, .inr (2, [.int n_nodes, .ref n_kind, .ref n_pay, .ref n_name, .ref n_ways, .ref n_held, .ref n_targets, .ref n_weights])), (n_kind, .inl (g 0, 12, .inl f_868)), (n_pay, .inl (g 0, 12, .inl f_870)), (n_name, .inl (g 0, 12, .inl f_869)), (n_ways, .inl (g 0, 12, .inl f_871)), (n_held, .inl (g 0, 12, .inl n_fheld))] H := hP
    have hD : va_D A [(n, .inr (2, [.int n_nodes, .ref n_kind, .ref n_pay, .ref n_name, .ref n_ways, .ref n_held, .ref n_targets, .ref n_weights])), (n_kind, .inl (g 0, 12, .inl f_868)), (n_pay, .inl (g 0, 12, .inl f_870)), (n_name, .inl (g 0, 12, .inl f_869)), (n_ways, .inl (g 0, 12, .inl f_871)), (n_held, .inl (g 0, 12, .inl n_fheld))] := hD
    refine lv_aload_n hx hb dX2_addNode_49 rfl (lv_at hl 0 rfl) ?_
    refine va_get (D := D) (ci := 2) (v := .ref n_held) (C := RX2) (T := TX2) (N := 8) hx hb hts inlX2 hown hK hP 0 rfl rfl 5 (by decide) (hts (Cond.fieldLink RX2 24 "ChanceRings$Net" "held" "[I") qw_1) (fun _ h9 => h9) rfl dX2_addNode_50 ?_
    refine lv_aload_n hx hb dX2_addNode_53 rfl (lv_at hl 0 rfl) ?_
    refine va_get (D := D) (ci := 2) (v := .int n_nodes) (C := RX2) (T := TX2) (N := 8) hx hb hts inlX2 hown hK hP 0 rfl rfl 0 (by decide) (hts (Cond.fieldLink RX2 33 "ChanceRings$Net" "nodes" "I") qw_0) (fun _ h9 => h9) rfl dX2_addNode_54 ?_
    refine lv_iconst (v := (-1)) hx hb dX2_addNode_57 (by decide) ?_
    refine va_iast hx hb hK hP hD hS 5 0 rfl rfl (tr_in h_867 (by decide) (by decide)) dX2_addNode_58 (fun H locs hP hD hS => ?_)
    obtain ⟨f_872, h_f_872, hP, hD⟩ : ∃ FX : Nat → Int32, (∀ j : Nat, (-1) ≤ (FX j).toInt ∧ (FX j).toInt ≤ 2) ∧ va_P D vwCl [(n, .inr (2, [.int n_nodes, .ref n_kind, .ref n_pay, .ref n_name, .ref n_ways, .ref n_held, .ref n_targets, .ref n_weights])), (n_kind, .inl (g 0, 12, .inl f_868)), (n_pay, .inl (g 0, 12, .inl f_870)), (n_name, .inl (g 0, 12, .inl f_869)), (n_ways, .inl (g 0, 12, .inl f_871)), (n_held, .inl (g 0, 12, .inl FX))] H ∧ va_D A [(n, .inr (2, [.int n_nodes, .ref n_kind, .ref n_pay, .ref n_name, .ref n_ways, .ref n_held, .ref n_targets, .ref n_weights])), (n_kind, .inl (g 0, 12, .inl f_868)), (n_pay, .inl (g 0, 12, .inl f_870)), (n_name, .inl (g 0, 12, .inl f_869)), (n_ways, .inl (g 0, 12, .inl f_871)), (n_held, .inl (g 0, 12, .inl FX))] := ⟨_, tr_upd h_n_fheld (⟨by decide, by decide⟩ : (-1) ≤ ((-1) : Int32).toInt ∧ ((-1) : Int32).toInt ≤ 2), hP, hD⟩
    have hP : va_P D vwCl [(n, .inr (2, [.int n_nodes, .ref n_kind, .ref n_pay, .ref n_name, .ref n_ways, .ref n_held, .ref n_targets, .ref n_weights])), (n_kind, .inl (g 0, 12, .inl f_868)), (n_pay, .inl (g 0, 12, .inl f_870)), (n_name, .inl (g 0, 12, .inl f_869)), (n_ways, .inl (g 0, 12, .inl f_871)), (n_held, .inl (g 0, 12, .inl f_872))] H := hP
    have hD : va_D A [(n, .inr (2, [.int n_nodes, .ref n_kind, .ref n_pay, .ref n_name, .ref n_ways, .ref n_held, .ref n_targets, .ref n_weights])), (n_kind, .inl (g 0, 12, .inl f_868)), (n_pay, .inl (g 0, 12, .inl f_870)), (n_name, .inl (g 0, 12, .inl f_869)), (n_ways, .inl (g 0, 12, .inl f_871)), (n_held, .inl (g 0, 12, .inl f_872))] := hD
    refine lv_aload_n hx hb dX2_addNode_59 rfl (lv_at hl 0 rfl) ?_
    refine lv_dup hx hb dX2_addNode_60 rfl ?_
    refine va_get (D := D) (ci := 2) (v := .int n_nodes) (C := RX2) (T := TX2) (N := 8) hx hb hts inlX2 hown hK hP 0 rfl rfl 0 (by decide) (hts (Cond.fieldLink RX2 33 "ChanceRings$Net" "nodes" "I") qw_0) (fun _ h9 => h9) rfl dX2_addNode_61 ?_
    refine lv_iconst (v := 1) hx hb dX2_addNode_64 (by decide) ?_
    refine lv_iadd hx hb dX2_addNode_65 ?_
    refine lv_topi (fun v_873 v_873_e => ?_)
    have h_v_873 : 1 ≤ (v_873 : Int32).toInt ∧ (v_873 : Int32).toInt ≤ 12 := by rw [v_873_e]; exact tr_add h_867 (⟨by decide, by decide⟩ : 1 ≤ (1 : Int32).toInt ∧ (1 : Int32).toInt ≤ 1) (by decide) (by decide) (by decide) (by decide)
    have q_v_873 : v_873.toInt = n_nodes.toInt + 1 := by rw [v_873_e]; exact tr_addE h_867 (⟨by decide, by decide⟩ : 1 ≤ (1 : Int32).toInt ∧ (1 : Int32).toInt ≤ 1) (by decide) (by decide)
    refine va_put (D := D) (ci := 2) (v := .int v_873) (ty := .int) (C := RX2) (T := TX2) (N := 8) hx hb hts inlX2 tyX2 tyX2_ok nmX2 hown hK hP hD hS 0 rfl rfl 0 (by decide) (hts (Cond.fieldLink RX2 33 "ChanceRings$Net" "nodes" "I") qw_0) (fun _ h9 => h9) rfl (by decide +kernel) rfl rfl (Nat.le_of_ble_eq_true rfl) dX2_addNode_66 (fun H locs hP hD hS => ?_)
    have hP : va_P D vwCl [(n, .inr (2, [.int v_873, .ref n_kind, .ref n_pay, .ref n_name, .ref n_ways, .ref n_held, .ref n_targets, .ref n_weights])), (n_kind, .inl (g 0, 12, .inl f_868)), (n_pay, .inl (g 0, 12, .inl f_870)), (n_name, .inl (g 0, 12, .inl f_869)), (n_ways, .inl (g 0, 12, .inl f_871)), (n_held, .inl (g 0, 12, .inl f_872))] H := hP
    have hD : va_D A [(n, .inr (2, [.int v_873, .ref n_kind, .ref n_pay, .ref n_name, .ref n_ways, .ref n_held, .ref n_targets, .ref n_weights])), (n_kind, .inl (g 0, 12, .inl f_868)), (n_pay, .inl (g 0, 12, .inl f_870)), (n_name, .inl (g 0, 12, .inl f_869)), (n_ways, .inl (g 0, 12, .inl f_871)), (n_held, .inl (g 0, 12, .inl f_872))] := hD
    have hP9 := hP.sub (ws' := [(n, .inr (2, [.int v_873, .ref n_kind, .ref n_pay, .ref n_name, .ref n_ways, .ref n_held, .ref n_targets, .ref n_weights])), (n_kind, .inl (g 0, 12, .inl f_868)), (n_pay, .inl (g 0, 12, .inl f_870)), (n_name, .inl (g 0, 12, .inl f_869)), (n_ways, .inl (g 0, 12, .inl f_871)), (n_held, .inl (g 0, 12, .inl f_872))]) [0, 1, 2, 3, 4, 5] rfl
    have hD9 := hD.sub (ws' := [(n, .inr (2, [.int v_873, .ref n_kind, .ref n_pay, .ref n_name, .ref n_ways, .ref n_held, .ref n_targets, .ref n_weights])), (n_kind, .inl (g 0, 12, .inl f_868)), (n_pay, .inl (g 0, 12, .inl f_870)), (n_name, .inl (g 0, 12, .inl f_869)), (n_ways, .inl (g 0, 12, .inl f_871)), (n_held, .inl (g 0, 12, .inl f_872))]) [0, 1, 2, 3, 4, 5] (by decide) rfl
    exact W.vret hx hb hr (fun t ht hW => ⟨⟨(), rfl, trivial, v_873, f_868, f_870, f_869, f_871, f_872, (tr_w h_v_873 (by decide) (by decide)), (tr_wa h_f_868 (by decide) (by decide)), (tr_wa h_f_871 (by decide) (by decide)), (tr_wa h_f_872 (by decide) (by decide)), by rw [ht]; exact hP9, hD9⟩, hS.F ht⟩) hS.2.2 dX2_addNode_69
set_option maxHeartbeats 4000000 in
set_option maxRecDepth 100000 in
theorem c_X2_addWay (l : Launch) (D : va_G) (g : Nat → ClassId) (sz : Nat) (n : Nat) (p0 : Int32) (p1 : Int32) (p2 : Int32) (n_nodes : Int32) (n_kind : Nat) (n_pay : Nat) (n_name : Nat) (n_ways : Nat) (n_held : Nat) (n_targets : Nat) (n_weights : Nat) (n_fways : Nat → Int32) (n_ftargets : Nat → Int32) (n_fweights : Nat → Int32) (h_p0 : 0 ≤ (p0 : Int32).toInt ∧ (p0 : Int32).toInt ≤ 11) (h_p1 : 0 ≤ (p1 : Int32).toInt ∧ (p1 : Int32).toInt ≤ 11) (h_n_nodes : 0 ≤ (n_nodes : Int32).toInt ∧ (n_nodes : Int32).toInt ≤ 12) (h_n_fways : ∀ j : Nat, 0 ≤ (n_fways j).toInt ∧ (n_fways j).toInt ≤ 3) (h_n_ftargets : ∀ j : Nat, 0 ≤ (n_ftargets j).toInt ∧ (n_ftargets j).toInt ≤ 11) : Met l yX2_addWay (.code yX2_addWay cX2_addWay 4 none :: wsL_law) ({ frames := 0, cells := 0, slots := 0, locals := 0 }) (va_Pc [.ref n, .int p0, .int p1, .int p2] (fun U => U.heap.size = sz ∧ va_P D vwCl [(n, .inr (2, [.int n_nodes, .ref n_kind, .ref n_pay, .ref n_name, .ref n_ways, .ref n_held, .ref n_targets, .ref n_weights])), (n_ways, .inl (g 0, 12, .inl n_fways)), (n_targets, .inl (g 0, 36, .inl n_ftargets)), (n_weights, .inl (g 0, 36, .inl n_fweights))] U.heap ∧ va_K D vwCl (TY g) U ∧ va_D (fun _ => True) [(n, .inr (2, [.int n_nodes, .ref n_kind, .ref n_pay, .ref n_name, .ref n_ways, .ref n_held, .ref n_targets, .ref n_weights])), (n_ways, .inl (g 0, 12, .inl n_fways)), (n_targets, .inl (g 0, 36, .inl n_ftargets)), (n_weights, .inl (g 0, 36, .inl n_fweights))])) (va_Qv (fun (_ : Unit) => True) (fun _ t => ∃ n_gways : Nat → Int32, ∃ n_gtargets : Nat → Int32, ∃ n_gweights : Nat → Int32, (∀ j : Nat, 0 ≤ (n_gways j).toInt ∧ (n_gways j).toInt ≤ 3) ∧ (∀ j : Nat, 0 ≤ (n_gtargets j).toInt ∧ (n_gtargets j).toInt ≤ 11) ∧ va_P D vwCl [(n, .inr (2, [.int n_nodes, .ref n_kind, .ref n_pay, .ref n_name, .ref n_ways, .ref n_held, .ref n_targets, .ref n_weights])), (n_ways, .inl (g 0, 12, .inl n_gways)), (n_targets, .inl (g 0, 36, .inl n_gtargets)), (n_weights, .inl (g 0, 36, .inl n_gweights))] t.heap ∧ va_D (va_A [(n, .inr (2, [.int n_nodes, .ref n_kind, .ref n_pay, .ref n_name, .ref n_ways, .ref n_held, .ref n_targets, .ref n_weights])), (n_ways, .inl (g 0, 12, .inl n_fways)), (n_targets, .inl (g 0, 36, .inl n_ftargets)), (n_weights, .inl (g 0, 36, .inl n_fweights))] sz) [(n, .inr (2, [.int n_nodes, .ref n_kind, .ref n_pay, .ref n_name, .ref n_ways, .ref n_held, .ref n_targets, .ref n_weights])), (n_ways, .inl (g 0, 12, .inl n_gways)), (n_targets, .inl (g 0, 36, .inl n_gtargets)), (n_weights, .inl (g 0, 36, .inl n_gweights))]) (va_A [(n, .inr (2, [.int n_nodes, .ref n_kind, .ref n_pay, .ref n_name, .ref n_ways, .ref n_held, .ref n_targets, .ref n_weights])), (n_ways, .inl (g 0, 12, .inl n_fways)), (n_targets, .inl (g 0, 36, .inl n_ftargets)), (n_weights, .inl (g 0, 36, .inl n_fweights))] sz)) 0 0 (va_A [(n, .inr (2, [.int n_nodes, .ref n_kind, .ref n_pay, .ref n_name, .ref n_ways, .ref n_held, .ref n_targets, .ref n_weights])), (n_ways, .inl (g 0, 12, .inl n_fways)), (n_targets, .inl (g 0, 36, .inl n_ftargets)), (n_weights, .inl (g 0, 36, .inl n_fweights))] sz) := by
  refine Met.ofW (cc := cX2_addWay) (maxL := 4) (ret := none) (by decide) rfl ?_
  intro p e s m args below meth c s₁ B hml hv
  obtain ⟨ha, hsz, hP, hK, hD0⟩ := hv
  have hx := B.exec
  have hb := B.bytes
  have hr := B.returns
  have hts0 := atoms_spec (ws := (.code yX2_addWay cX2_addWay 4 none :: wsL_law)) B.pre
  have hts : ∀ w ∈ wsL_law, w.before args s = true := fun w h => hts0 w (List.mem_cons_of_mem _ h)
  have hown : s.vm.findClass RX2 = some m.cls := findClass_of_methodNamed B.named
  have hlocks := B.notSynchronized
  subst hsz
  have hD := hD0.self (sz := s.heap.size)
  generalize hAe : va_A [(n, .inr (2, [.int n_nodes, .ref n_kind, .ref n_pay, .ref n_name, .ref n_ways, .ref n_held, .ref n_targets, .ref n_weights])), (n_ways, .inl (g 0, 12, .inl n_fways)), (n_targets, .inl (g 0, 36, .inl n_ftargets)), (n_weights, .inl (g 0, 36, .inl n_fweights))] s.heap.size = A at hD ⊢
  have hA : ∀ q : Nat, s.heap.size ≤ q → A q := fun q h => by rw [← hAe]; exact Or.inr h
  have hS : va_S A s.heap s.heap [] := va_S.rf
  have hP : va_P D vwCl [(n, .inr (2, [.int n_nodes, .ref n_kind, .ref n_pay, .ref n_name, .ref n_ways, .ref n_held, .ref n_targets, .ref n_weights])), (n_ways, .inl (g 0, 12, .inl n_fways)), (n_targets, .inl (g 0, 36, .inl n_ftargets)), (n_weights, .inl (g 0, 36, .inl n_fweights))] s.heap := hP
  refine W.eq (g2 := entryFrame m ([.ref n, .int p0, .int p1, .int p2] : List Value).toArray 4) (by rw [ha]) ?_
  have hl := lv_entry ([.ref n, .int p0, .int p1, .int p2]) (n := 4) (Nat.le_of_ble_eq_true rfl)
  rw [lg_entry_eq]
  generalize (lg_sl ([.ref n, .int p0, .int p1, .int p2]) ++ List.replicate (4 - (lg_sl ([.ref n, .int p0, .int p1, .int p2])).length) Slot.unset).toArray = ls at hl ⊢
  have hl : lv_has ls 4 [(0, .ref n), (1, .int p0), (2, .int p1), (3, .int p2)] := hl
  refine lv_aload_n hx hb dX2_addWay_0 rfl (lv_at hl 0 rfl) ?_
  refine va_get (D := D) (ci := 2) (v := .ref n_ways) (C := RX2) (T := TX2) (N := 8) hx hb hts inlX2 hown hK hP 0 rfl rfl 4 (by decide) (hts (Cond.fieldLink RX2 21 "ChanceRings$Net" "ways" "[I") qw_5) (fun _ h9 => h9) rfl dX2_addWay_1 ?_
  refine lv_iload_n hx hb dX2_addWay_4 rfl (lv_at hl 1 rfl) ?_
  refine va_iald hx hb hK hP 1 0 rfl rfl (tr_in h_p0 (by decide) (by decide)) dX2_addWay_5 ?_
  refine lv_topi (fun v_874 v_874_e => ?_)
  have h_v_874 : 0 ≤ (v_874 : Int32).toInt ∧ (v_874 : Int32).toInt ≤ 3 := by rw [v_874_e]; exact h_n_fways _
  refine lv_iconst (v := 3) hx hb dX2_addWay_6 (by decide) ?_
  refine lv_icmp_ge (tgt := 52) hx hb dX2_addWay_7 (by decide) (fun c_875 => ?_) (fun c_875 => ?_)
  · skip
    have c_875_i := Int32.le_iff_toInt_le.mp c_875
    have h_876 : 3 ≤ (v_874 : Int32).toInt ∧ (v_874 : Int32).toInt ≤ 3 := by have q1 := h_v_874; have q2 := (⟨by decide, by decide⟩ : 3 ≤ (3 : Int32).toInt ∧ (3 : Int32).toInt ≤ 3); omega
    have hP9 := hP.sub (ws' := [(n, .inr (2, [.int n_nodes, .ref n_kind, .ref n_pay, .ref n_name, .ref n_ways, .ref n_held, .ref n_targets, .ref n_weights])), (n_ways, .inl (g 0, 12, .inl n_fways)), (n_targets, .inl (g 0, 36, .inl n_ftargets)), (n_weights, .inl (g 0, 36, .inl n_fweights))]) [0, 1, 2, 3] rfl
    have hD9 := hD.sub (ws' := [(n, .inr (2, [.int n_nodes, .ref n_kind, .ref n_pay, .ref n_name, .ref n_ways, .ref n_held, .ref n_targets, .ref n_weights])), (n_ways, .inl (g 0, 12, .inl n_fways)), (n_targets, .inl (g 0, 36, .inl n_ftargets)), (n_weights, .inl (g 0, 36, .inl n_fweights))]) [0, 1, 2, 3] (by decide) rfl
    exact W.vret hx hb hr (fun t ht hW => ⟨⟨(), rfl, trivial, n_fways, n_ftargets, n_fweights, (tr_wa h_n_fways (by decide) (by decide)), (tr_wa h_n_ftargets (by decide) (by decide)), by rw [ht]; exact hP9, hD9⟩, hS.F ht⟩) hS.2.2 dX2_addWay_52
  · skip
    have c_875_i := Int32.lt_iff_toInt_lt.mp (Int32.not_le.mp c_875)
    have h_877 : 0 ≤ (v_874 : Int32).toInt ∧ (v_874 : Int32).toInt ≤ 2 := by have q1 := h_v_874; have q2 := (⟨by decide, by decide⟩ : 3 ≤ (3 : Int32).toInt ∧ (3 : Int32).toInt ≤ 3); omega
    refine lv_aload_n hx hb dX2_addWay_10 rfl (lv_at hl 0 rfl) ?_
    refine va_get (D := D) (ci := 2) (v := .ref n_targets) (C := RX2) (T := TX2) (N := 8) hx hb hts inlX2 hown hK hP 0 rfl rfl 6 (by decide) (hts (Cond.fieldLink RX2 27 "ChanceRings$Net" "targets" "[I") qw_2) (fun _ h9 => h9) rfl dX2_addWay_11 ?_
    refine lv_iload_n hx hb dX2_addWay_14 rfl (lv_at hl 1 rfl) ?_
    refine lv_iconst (v := 3) hx hb dX2_addWay_15 (by decide) ?_
    refine lv_imul hx hb dX2_addWay_16 ?_
    refine lv_topi (fun v_878 v_878_e => ?_)
    have h_v_878 : 0 ≤ (v_878 : Int32).toInt ∧ (v_878 : Int32).toInt ≤ 33 := by rw [v_878_e]; exact tr_mul h_p0 (⟨by decide, by decide⟩ : 3 ≤ (3 : Int32).toInt ∧ (3 : Int32).toInt ≤ 3) (by decide) (by decide) (by decide) (by decide)
    refine lv_aload_n hx hb dX2_addWay_17 rfl (lv_at hl 0 rfl) ?_
    refine va_get (D := D) (ci := 2) (v := .ref n_ways) (C := RX2) (T := TX2) (N := 8) hx hb hts inlX2 hown hK hP 0 rfl rfl 4 (by decide) (hts (Cond.fieldLink RX2 21 "ChanceRings$Net" "ways" "[I") qw_5) (fun _ h9 => h9) rfl dX2_addWay_18 ?_
    refine lv_iload_n hx hb dX2_addWay_21 rfl (lv_at hl 1 rfl) ?_
    refine va_iald hx hb hK hP 1 0 rfl rfl (tr_in h_p0 (by decide) (by decide)) dX2_addWay_22 ?_
    refine tz_i (y := v_874) v_874_e.symm ?_
    refine lv_iadd hx hb dX2_addWay_23 ?_
    refine lv_topi (fun v_879 v_879_e => ?_)
    have h_v_879 : 0 ≤ (v_879 : Int32).toInt ∧ (v_879 : Int32).toInt ≤ 35 := by rw [v_879_e]; exact tr_add h_v_878 h_877 (by decide) (by decide) (by decide) (by decide)
    refine lv_iload_n hx hb dX2_addWay_24 rfl (lv_at hl 2 rfl) ?_
    refine va_iast hx hb hK hP hD hS 2 0 rfl rfl (tr_in h_v_879 (by decide) (by decide)) dX2_addWay_25 (fun H locs hP hD hS => ?_)
    obtain ⟨f_880, h_f_880, hP, hD⟩ : ∃ FX : Nat → Int32, (∀ j : Nat, 0 ≤ (FX j).toInt ∧ (FX j).toInt ≤ 11) ∧ va_P D vwCl [(n, .inr (2, [.int n_nodes, .ref n_kind, .ref n_pay, .ref n_name, .ref n_ways, .ref n_held, .ref n_targets, .ref n_weights])), (n_ways, .inl (g 0, 12, .inl n_fways)), (n_targets, .inl (g 0, 36, .inl FX)), (n_weights, .inl (g 0, 36, .inl n_fweights))] H ∧ va_D A [(n, .inr (2, [.int n_nodes, .ref n_kind, .ref n_pay, .ref n_name, .ref n_ways, .ref n_held, .ref n_targets, .ref n_weights])), (n_ways, .inl (g 0, 12, .inl n_fways)), (n_targets, .inl (g 0, 36, .inl FX)), (n_weights, .inl (g 0, 36, .inl n_fweights))] := ⟨_, tr_upd h_n_ftargets (tr_w h_p1 (by decide) (by decide)), hP, hD⟩
    have hP : va_P D vwCl [(n, .inr (2, [.int n_nodes, .ref n_kind, .ref n_pay, .ref n_name, .ref n_ways, .ref n_held, .ref n_targets, .ref n_weights])), (n_ways, .inl (g 0, 12, .inl n_fways)), (n_targets, .inl (g 0, 36, .inl f_880)), (n_weights, .inl (g 0, 36, .inl n_fweights))] H := hP
    have hD : va_D A [(n, .inr (2, [.int n_nodes, .ref n_kind, .ref n_pay, .ref n_name, .ref n_ways, .ref n_held, .ref n_targets, .ref n_weights])), (n_ways, .inl (g 0, 12, .inl n_fways)), (n_targets, .inl (g 0, 36, .inl f_880)), (n_weights, .inl (g 0, 36, .inl n_fweights))] := hD
    refine lv_aload_n hx hb dX2_addWay_26 rfl (lv_at hl 0 rfl) ?_
    refine va_get (D := D) (ci := 2) (v := .ref n_weights) (C := RX2) (T := TX2) (N := 8) hx hb hts inlX2 hown hK hP 0 rfl rfl 7 (by decide) (hts (Cond.fieldLink RX2 30 "ChanceRings$Net" "weights" "[I") qw_19) (fun _ h9 => h9) rfl dX2_addWay_27 ?_
    refine lv_iload_n hx hb dX2_addWay_30 rfl (lv_at hl 1 rfl) ?_
    refine lv_iconst (v := 3) hx hb dX2_addWay_31 (by decide) ?_
    refine lv_imul hx hb dX2_addWay_32 ?_
    refine lv_topi (fun v_881 v_881_e => ?_)
    have h_v_881 : 0 ≤ (v_881 : Int32).toInt ∧ (v_881 : Int32).toInt ≤ 33 := by rw [v_881_e]; exact tr_mul h_p0 (⟨by decide, by decide⟩ : 3 ≤ (3 : Int32).toInt ∧ (3 : Int32).toInt ≤ 3) (by decide) (by decide) (by decide) (by decide)
    refine lv_aload_n hx hb dX2_addWay_33 rfl (lv_at hl 0 rfl) ?_
    refine va_get (D := D) (ci := 2) (v := .ref n_ways) (C := RX2) (T := TX2) (N := 8) hx hb hts inlX2 hown hK hP 0 rfl rfl 4 (by decide) (hts (Cond.fieldLink RX2 21 "ChanceRings$Net" "ways" "[I") qw_5) (fun _ h9 => h9) rfl dX2_addWay_34 ?_
    refine lv_iload_n hx hb dX2_addWay_37 rfl (lv_at hl 1 rfl) ?_
    refine va_iald hx hb hK hP 1 0 rfl rfl (tr_in h_p0 (by decide) (by decide)) dX2_addWay_38 ?_
    refine tz_i (y := v_874) v_874_e.symm ?_
    refine lv_iadd hx hb dX2_addWay_39 ?_
    refine lv_topi (fun v_882 v_882_e => ?_)
    have h_v_882 : 0 ≤ (v_882 : Int32).toInt ∧ (v_882 : Int32).toInt ≤ 35 := by rw [v_882_e]; exact tr_add h_v_881 h_877 (by decide) (by decide) (by decide) (by decide)
    refine lv_iload_n hx hb dX2_addWay_40 rfl (lv_at hl 3 rfl) ?_
    refine va_iast hx hb hK hP hD hS 3 0 rfl rfl (tr_in h_v_882 (by decide) (by decide)) dX2_addWay_41 (fun H locs hP hD hS => ?_)
    obtain ⟨f_883, hP, hD⟩ : ∃ FX : Nat → Int32, va_P D vwCl [(n, .inr (2, [.int n_nodes, .ref n_kind, .ref n_pay, .ref n_name, .ref n_ways, .ref n_held, .ref n_targets, .ref n_weights])), (n_ways, .inl (g 0, 12, .inl n_fways)), (n_targets, .inl (g 0, 36, .inl f_880)), (n_weights, .inl (g 0, 36, .inl FX))] H ∧ va_D A [(n, .inr (2, [.int n_nodes, .ref n_kind, .ref n_pay, .ref n_name, .ref n_ways, .ref n_held, .ref n_targets, .ref n_weights])), (n_ways, .inl (g 0, 12, .inl n_fways)), (n_targets, .inl (g 0, 36, .inl f_880)), (n_weights, .inl (g 0, 36, .inl FX))] := ⟨_, hP, hD⟩
    have hP : va_P D vwCl [(n, .inr (2, [.int n_nodes, .ref n_kind, .ref n_pay, .ref n_name, .ref n_ways, .ref n_held, .ref n_targets, .ref n_weights])), (n_ways, .inl (g 0, 12, .inl n_fways)), (n_targets, .inl (g 0, 36, .inl f_880)), (n_weights, .inl (g 0, 36, .inl f_883))] H := hP
    have hD : va_D A [(n, .inr (2, [.int n_nodes, .ref n_kind, .ref n_pay, .ref n_name, .ref n_ways, .ref n_held, .ref n_targets, .ref n_weights])), (n_ways, .inl (g 0, 12, .inl n_fways)), (n_targets, .inl (g 0, 36, .inl f_880)), (n_weights, .inl (g 0, 36, .inl f_883))] := hD
    refine lv_aload_n hx hb dX2_addWay_42 rfl (lv_at hl 0 rfl) ?_
    refine va_get (D := D) (ci := 2) (v := .ref n_ways) (C := RX2) (T := TX2) (N := 8) hx hb hts inlX2 hown hK hP 0 rfl rfl 4 (by decide) (hts (Cond.fieldLink RX2 21 "ChanceRings$Net" "ways" "[I") qw_5) (fun _ h9 => h9) rfl dX2_addWay_43 ?_
    refine lv_iload_n hx hb dX2_addWay_46 rfl (lv_at hl 1 rfl) ?_
    refine lv_dup2_11 hx hb dX2_addWay_47 rfl rfl ?_
    refine va_iald hx hb hK hP 1 0 rfl rfl (tr_in h_p0 (by decide) (by decide)) dX2_addWay_48 ?_
    refine tz_i (y := v_874) v_874_e.symm ?_
    refine lv_iconst (v := 1) hx hb dX2_addWay_49 (by decide) ?_
    refine lv_iadd hx hb dX2_addWay_50 ?_
    refine lv_topi (fun v_884 v_884_e => ?_)
    have h_v_884 : 1 ≤ (v_884 : Int32).toInt ∧ (v_884 : Int32).toInt ≤ 3 := by rw [v_884_e]; exact tr_add h_877 (⟨by decide, by decide⟩ : 1 ≤ (1 : Int32).toInt ∧ (1 : Int32).toInt ≤ 1) (by decide) (by decide) (by decide) (by decide)
    have q_v_884 : v_884.toInt = v_874.toInt + 1 := by rw [v_884_e]; exact tr_addE h_877 (⟨by decide, by decide⟩ : 1 ≤ (1 : Int32).toInt ∧ (1 : Int32).toInt ≤ 1) (by decide) (by decide)
    refine va_iast hx hb hK hP hD hS 1 0 rfl rfl (tr_in h_p0 (by decide) (by decide)) dX2_addWay_51 (fun H locs hP hD hS => ?_)
    obtain ⟨f_885, h_f_885, hP, hD⟩ : ∃ FX : Nat → Int32, (∀ j : Nat, 0 ≤ (FX j).toInt ∧ (FX j).toInt ≤ 3) ∧ va_P D vwCl [(n, .inr (2, [.int n_nodes, .ref n_kind, .ref n_pay, .ref n_name, .ref n_ways, .ref n_held, .ref n_targets, .ref n_weights])), (n_ways, .inl (g 0, 12, .inl FX)), (n_targets, .inl (g 0, 36, .inl f_880)), (n_weights, .inl (g 0, 36, .inl f_883))] H ∧ va_D A [(n, .inr (2, [.int n_nodes, .ref n_kind, .ref n_pay, .ref n_name, .ref n_ways, .ref n_held, .ref n_targets, .ref n_weights])), (n_ways, .inl (g 0, 12, .inl FX)), (n_targets, .inl (g 0, 36, .inl f_880)), (n_weights, .inl (g 0, 36, .inl f_883))] := ⟨_, tr_upd h_n_fways (tr_w h_v_884 (by decide) (by decide)), hP, hD⟩
    have hP : va_P D vwCl [(n, .inr (2, [.int n_nodes, .ref n_kind, .ref n_pay, .ref n_name, .ref n_ways, .ref n_held, .ref n_targets, .ref n_weights])), (n_ways, .inl (g 0, 12, .inl f_885)), (n_targets, .inl (g 0, 36, .inl f_880)), (n_weights, .inl (g 0, 36, .inl f_883))] H := hP
    have hD : va_D A [(n, .inr (2, [.int n_nodes, .ref n_kind, .ref n_pay, .ref n_name, .ref n_ways, .ref n_held, .ref n_targets, .ref n_weights])), (n_ways, .inl (g 0, 12, .inl f_885)), (n_targets, .inl (g 0, 36, .inl f_880)), (n_weights, .inl (g 0, 36, .inl f_883))] := hD
    have hP9 := hP.sub (ws' := [(n, .inr (2, [.int n_nodes, .ref n_kind, .ref n_pay, .ref n_name, .ref n_ways, .ref n_held, .ref n_targets, .ref n_weights])), (n_ways, .inl (g 0, 12, .inl f_885)), (n_targets, .inl (g 0, 36, .inl f_880)), (n_weights, .inl (g 0, 36, .inl f_883))]) [0, 1, 2, 3] rfl
    have hD9 := hD.sub (ws' := [(n, .inr (2, [.int n_nodes, .ref n_kind, .ref n_pay, .ref n_name, .ref n_ways, .ref n_held, .ref n_targets, .ref n_weights])), (n_ways, .inl (g 0, 12, .inl f_885)), (n_targets, .inl (g 0, 36, .inl f_880)), (n_weights, .inl (g 0, 36, .inl f_883))]) [0, 1, 2, 3] (by decide) rfl
    exact W.vret hx hb hr (fun t ht hW => ⟨⟨(), rfl, trivial, f_885, f_880, f_883, (tr_wa h_f_885 (by decide) (by decide)), (tr_wa h_f_880 (by decide) (by decide)), by rw [ht]; exact hP9, hD9⟩, hS.F ht⟩) hS.2.2 dX2_addWay_52
